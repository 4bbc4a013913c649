def zyv314 : zAV := .inl ((.ofNat 40, .ofNat 40), none)
noncomputable def zyc254 : zC := .inr (8, [zyv114, zyv15, zyv15, zyv15, zyv114, zyv114, zyv114, zyv114, zyv15, zyv114, zyv15, zyv15, zyv121, zyv17, zyv314, zyv35, zyv124, zyv114, zyv114, zyv114, zyv15, zyv36, zyv129, zyv114, zyv15, zyv114, zyv114, zyv15, zyv15, zyv114, zyv114, zyv114, zyv114, zyv114, zyv114, zyv114, zyv114, zyv114, zyv114, zyv15, zyv114, zyv114, zyv114, zyv114, zyv15, zyv15, zyv15, zyv15, zyv114, zyv114, zyv114])
noncomputable def zyr185 : List zC := [zyc60, zyc60, zyc60, zyc69, zyc10, zyc10, zyc10, zyc12, zyc70, zyc8, zyc8, zyc70, zyc8, zyc8, zyc254, zyc52]
noncomputable def zyh174 : zH := (126, [zyr9, zyr10, zyr11, zyr12, zyr13, zyr185, zyr6, zyr7], 0)
def zyv315 : zAV := .inr (.inr (.inl 94))
def zyv316 : zAV := .inl ((.ofNat 45, .ofNat 62), none)
def zym9 : Nat := 9750459981682161823013815140925344762164019828187247898044165338828361330504195638089528947564597255689892296294894991252982286451541772476651719277507982062256701877281872573108875731140357938095507079933419497033657972202182973736386333513387432336561250408766093619430038275108356102219392754021458805999519768660741551857170704247221768015943507145442922785830195645740748449543480072194129392446089299630544348955627430507353510087294783476847524720596314464038312865582181923970438264048613866444277015966465883664321688068610276147505107629831986868948946568231682301881674654563565539563914219061330608696083779465529397570286696365262279907415927910031117355807013746818747019375498079328922945838354526400885744587347037839421811903854745599079510635818841487975490261098501295092446632038407823211155179692006906222077502581591041564616347473052339625491962156123432856983868467678076452791326322074884981445510074167896552013243717304803433727087796529875457981361723194742211056438222002530694162128193543815756421325104109778831460941640459752325147895064813536867603212559072588523299953692974901956659444647478299162713827540440752165159864061938637926465613327662246059149849205119711077812011456158204029007351283901570669051943964756205164003613307314336350752701828015559797956379082826112546289883214141276867070014541872349677258921775340921242872345082578510646529572746205776856145394014170624142741810222386066799601296460808886651282848326161962498590297710347273522783956026186529530187281357016145663320843169446212330382181346354221972439735866661798036853903848148466421271065181342758991647309220130517450469958267978143742953314279245527818463123515329225931582603490415768520857705602534791666238577121814006729570396128132702218170699837498390129987834127633570005415320036199890944
noncomputable def zyh175 : zH := (126, [zyr9, zyr10, zyr11, zyr12, zyr13, zyr185, zyr6, zyr7], zym9)
def zyv317 : zAV := .inl ((.ofNat 1, .ofNat 40), none)
noncomputable def zyc255 : zC := .inr (8, [zyv114, zyv15, zyv15, zyv15, zyv114, zyv114, zyv114, zyv114, zyv15, zyv114, zyv15, zyv15, zyv121, zyv17, zyv314, zyv317, zyv239, zyv114, zyv114, zyv114, zyv15, zyv36, zyv129, zyv114, zyv15, zyv114, zyv114, zyv15, zyv15, zyv114, zyv114, zyv114, zyv114, zyv114, zyv114, zyv114, zyv114, zyv114, zyv114, zyv15, zyv114, zyv114, zyv114, zyv114, zyv15, zyv15, zyv15, zyv15, zyv114, zyv114, zyv114])
noncomputable def zyr186 : List zC := [zyc60, zyc60, zyc60, zyc69, zyc10, zyc10, zyc10, zyc12, zyc70, zyc8, zyc8, zyc70, zyc8, zyc8, zyc255, zyc52]
noncomputable def zyh176 : zH := (126, [zyr9, zyr10, zyr11, zyr12, zyr13, zyr186, zyr6, zyr7], zym9)
noncomputable def zyc256 : zC := .inr (8, [zyv114, zyv15, zyv15, zyv15, zyv114, zyv114, zyv114, zyv114, zyv15, zyv114, zyv15, zyv15, zyv121, zyv17, zyv314, zyv317, zyv124, zyv114, zyv114, zyv114, zyv15, zyv36, zyv129, zyv114, zyv15, zyv114, zyv114, zyv15, zyv15, zyv114, zyv114, zyv114, zyv114, zyv114, zyv114, zyv114, zyv114, zyv114, zyv114, zyv15, zyv114, zyv114, zyv114, zyv114, zyv15, zyv15, zyv15, zyv15, zyv114, zyv114, zyv114])
noncomputable def zyr187 : List zC := [zyc60, zyc60, zyc60, zyc69, zyc10, zyc10, zyc10, zyc12, zyc70, zyc8, zyc8, zyc70, zyc8, zyc8, zyc256, zyc52]
noncomputable def zyh177 : zH := (126, [zyr9, zyr10, zyr11, zyr12, zyr13, zyr187, zyr6, zyr7], 0)
def zyv318 : zAV := .inl ((.ofNat 41, .ofNat 62), none)
noncomputable def zyh178 : zH := (126, [zyr9, zyr10, zyr11, zyr12, zyr13, zyr187, zyr6, zyr7], zym9)
def zyv319 : zAV := .inl ((.ofNat 2, .ofNat 40), none)
noncomputable def zyc257 : zC := .inr (8, [zyv114, zyv15, zyv15, zyv15, zyv114, zyv114, zyv114, zyv114, zyv15, zyv114, zyv15, zyv15, zyv121, zyv17, zyv314, zyv319, zyv239, zyv114, zyv114, zyv114, zyv15, zyv36, zyv129, zyv114, zyv15, zyv114, zyv114, zyv15, zyv15, zyv114, zyv114, zyv114, zyv114, zyv114, zyv114, zyv114, zyv114, zyv114, zyv114, zyv15, zyv114, zyv114, zyv114, zyv114, zyv15, zyv15, zyv15, zyv15, zyv114, zyv114, zyv114])
noncomputable def zyr188 : List zC := [zyc60, zyc60, zyc60, zyc69, zyc10, zyc10, zyc10, zyc12, zyc70, zyc8, zyc8, zyc70, zyc8, zyc8, zyc257, zyc52]
noncomputable def zyh179 : zH := (126, [zyr9, zyr10, zyr11, zyr12, zyr13, zyr188, zyr6, zyr7], zym9)
noncomputable def zyc258 : zC := .inr (8, [zyv114, zyv15, zyv15, zyv15, zyv114, zyv114, zyv114, zyv114, zyv15, zyv114, zyv15, zyv15, zyv121, zyv17, zyv314, zyv319, zyv124, zyv114, zyv114, zyv114, zyv15, zyv36, zyv129, zyv114, zyv15, zyv114, zyv114, zyv15, zyv15, zyv114, zyv114, zyv114, zyv114, zyv114, zyv114, zyv114, zyv114, zyv114, zyv114, zyv15, zyv114, zyv114, zyv114, zyv114, zyv15, zyv15, zyv15, zyv15, zyv114, zyv114, zyv114])
noncomputable def zyr189 : List zC := [zyc60, zyc60, zyc60, zyc69, zyc10, zyc10, zyc10, zyc12, zyc70, zyc8, zyc8, zyc70, zyc8, zyc8, zyc258, zyc52]
noncomputable def zyh180 : zH := (126, [zyr9, zyr10, zyr11, zyr12, zyr13, zyr189, zyr6, zyr7], 0)
noncomputable def zyh181 : zH := (126, [zyr9, zyr10, zyr11, zyr12, zyr13, zyr189, zyr6, zyr7], zym9)
def zyv320 : zAV := .inl ((.ofNat 3, .ofNat 40), none)
noncomputable def zyc259 : zC := .inr (8, [zyv114, zyv15, zyv15, zyv15, zyv114, zyv114, zyv114, zyv114, zyv15, zyv114, zyv15, zyv15, zyv121, zyv17, zyv314, zyv320, zyv239, zyv114, zyv114, zyv114, zyv15, zyv36, zyv129, zyv114, zyv15, zyv114, zyv114, zyv15, zyv15, zyv114, zyv114, zyv114, zyv114, zyv114, zyv114, zyv114, zyv114, zyv114, zyv114, zyv15, zyv114, zyv114, zyv114, zyv114, zyv15, zyv15, zyv15, zyv15, zyv114, zyv114, zyv114])
noncomputable def zyr190 : List zC := [zyc60, zyc60, zyc60, zyc69, zyc10, zyc10, zyc10, zyc12, zyc70, zyc8, zyc8, zyc70, zyc8, zyc8, zyc259, zyc52]
noncomputable def zyh182 : zH := (126, [zyr9, zyr10, zyr11, zyr12, zyr13, zyr190, zyr6, zyr7], zym9)
noncomputable def zyc260 : zC := .inr (8, [zyv114, zyv15, zyv15, zyv15, zyv114, zyv114, zyv114, zyv114, zyv15, zyv114, zyv15, zyv15, zyv121, zyv17, zyv314, zyv320, zyv124, zyv114, zyv114, zyv114, zyv15, zyv36, zyv129, zyv114, zyv15, zyv114, zyv114, zyv15, zyv15, zyv114, zyv114, zyv114, zyv114, zyv114, zyv114, zyv114, zyv114, zyv114, zyv114, zyv15, zyv114, zyv114, zyv114, zyv114, zyv15, zyv15, zyv15, zyv15, zyv114, zyv114, zyv114])
noncomputable def zyr191 : List zC := [zyc60, zyc60, zyc60, zyc69, zyc10, zyc10, zyc10, zyc12, zyc70, zyc8, zyc8, zyc70, zyc8, zyc8, zyc260, zyc52]
noncomputable def zyh183 : zH := (126, [zyr9, zyr10, zyr11, zyr12, zyr13, zyr191, zyr6, zyr7], 0)
noncomputable def zyh184 : zH := (126, [zyr9, zyr10, zyr11, zyr12, zyr13, zyr191, zyr6, zyr7], zym9)
def zyv321 : zAV := .inl ((.ofNat 4, .ofNat 40), none)
noncomputable def zyc261 : zC := .inr (8, [zyv114, zyv15, zyv15, zyv15, zyv114, zyv114, zyv114, zyv114, zyv15, zyv114, zyv15, zyv15, zyv121, zyv17, zyv314, zyv321, zyv239, zyv114, zyv114, zyv114, zyv15, zyv36, zyv129, zyv114, zyv15, zyv114, zyv114, zyv15, zyv15, zyv114, zyv114, zyv114, zyv114, zyv114, zyv114, zyv114, zyv114, zyv114, zyv114, zyv15, zyv114, zyv114, zyv114, zyv114, zyv15, zyv15, zyv15, zyv15, zyv114, zyv114, zyv114])
noncomputable def zyr192 : List zC := [zyc60, zyc60, zyc60, zyc69, zyc10, zyc10, zyc10, zyc12, zyc70, zyc8, zyc8, zyc70, zyc8, zyc8, zyc261, zyc52]
noncomputable def zyh185 : zH := (126, [zyr9, zyr10, zyr11, zyr12, zyr13, zyr192, zyr6, zyr7], zym9)
noncomputable def zyc262 : zC := .inr (8, [zyv114, zyv15, zyv15, zyv15, zyv114, zyv114, zyv114, zyv114, zyv15, zyv114, zyv15, zyv15, zyv121, zyv17, zyv314, zyv321, zyv124, zyv114, zyv114, zyv114, zyv15, zyv36, zyv129, zyv114, zyv15, zyv114, zyv114, zyv15, zyv15, zyv114, zyv114, zyv114, zyv114, zyv114, zyv114, zyv114, zyv114, zyv114, zyv114, zyv15, zyv114, zyv114, zyv114, zyv114, zyv15, zyv15, zyv15, zyv15, zyv114, zyv114, zyv114])
noncomputable def zyr193 : List zC := [zyc60, zyc60, zyc60, zyc69, zyc10, zyc10, zyc10, zyc12, zyc70, zyc8, zyc8, zyc70, zyc8, zyc8, zyc262, zyc52]
noncomputable def zyh186 : zH := (126, [zyr9, zyr10, zyr11, zyr12, zyr13, zyr193, zyr6, zyr7], 0)
noncomputable def zyh187 : zH := (126, [zyr9, zyr10, zyr11, zyr12, zyr13, zyr193, zyr6, zyr7], zym9)
def zyv322 : zAV := .inl ((.ofNat 5, .ofNat 40), none)
noncomputable def zyc263 : zC := .inr (8, [zyv114, zyv15, zyv15, zyv15, zyv114, zyv114, zyv114, zyv114, zyv15, zyv114, zyv15, zyv15, zyv121, zyv17, zyv314, zyv322, zyv239, zyv114, zyv114, zyv114, zyv15, zyv36, zyv129, zyv114, zyv15, zyv114, zyv114, zyv15, zyv15, zyv114, zyv114, zyv114, zyv114, zyv114, zyv114, zyv114, zyv114, zyv114, zyv114, zyv15, zyv114, zyv114, zyv114, zyv114, zyv15, zyv15, zyv15, zyv15, zyv114, zyv114, zyv114])
noncomputable def zyr194 : List zC := [zyc60, zyc60, zyc60, zyc69, zyc10, zyc10, zyc10, zyc12, zyc70, zyc8, zyc8, zyc70, zyc8, zyc8, zyc263, zyc52]
noncomputable def zyh188 : zH := (126, [zyr9, zyr10, zyr11, zyr12, zyr13, zyr194, zyr6, zyr7], zym9)
noncomputable def zyc264 : zC := .inr (8, [zyv114, zyv15, zyv15, zyv15, zyv114, zyv114, zyv114, zyv114, zyv15, zyv114, zyv15, zyv15, zyv121, zyv17, zyv314, zyv322, zyv124, zyv114, zyv114, zyv114, zyv15, zyv36, zyv129, zyv114, zyv15, zyv114, zyv114, zyv15, zyv15, zyv114, zyv114, zyv114, zyv114, zyv114, zyv114, zyv114, zyv114, zyv114, zyv114, zyv15, zyv114, zyv114, zyv114, zyv114, zyv15, zyv15, zyv15, zyv15, zyv114, zyv114, zyv114])
noncomputable def zyr195 : List zC := [zyc60, zyc60, zyc60, zyc69, zyc10, zyc10, zyc10, zyc12, zyc70, zyc8, zyc8, zyc70, zyc8, zyc8, zyc264, zyc52]
noncomputable def zyh189 : zH := (126, [zyr9, zyr10, zyr11, zyr12, zyr13, zyr195, zyr6, zyr7], 0)
noncomputable def zyh190 : zH := (126, [zyr9, zyr10, zyr11, zyr12, zyr13, zyr195, zyr6, zyr7], zym9)
def zyv323 : zAV := .inl ((.ofNat 6, .ofNat 40), none)
noncomputable def zyc265 : zC := .inr (8, [zyv114, zyv15, zyv15, zyv15, zyv114, zyv114, zyv114, zyv114, zyv15, zyv114, zyv15, zyv15, zyv121, zyv17, zyv314, zyv323, zyv239, zyv114, zyv114, zyv114, zyv15, zyv36, zyv129, zyv114, zyv15, zyv114, zyv114, zyv15, zyv15, zyv114, zyv114, zyv114, zyv114, zyv114, zyv114, zyv114, zyv114, zyv114, zyv114, zyv15, zyv114, zyv114, zyv114, zyv114, zyv15, zyv15, zyv15, zyv15, zyv114, zyv114, zyv114])
noncomputable def zyr196 : List zC := [zyc60, zyc60, zyc60, zyc69, zyc10, zyc10, zyc10, zyc12, zyc70, zyc8, zyc8, zyc70, zyc8, zyc8, zyc265, zyc52]
noncomputable def zyh191 : zH := (126, [zyr9, zyr10, zyr11, zyr12, zyr13, zyr196, zyr6, zyr7], zym9)
noncomputable def zyc266 : zC := .inr (8, [zyv114, zyv15, zyv15, zyv15, zyv114, zyv114, zyv114, zyv114, zyv15, zyv114, zyv15, zyv15, zyv121, zyv17, zyv314, zyv323, zyv124, zyv114, zyv114, zyv114, zyv15, zyv36, zyv129, zyv114, zyv15, zyv114, zyv114, zyv15, zyv15, zyv114, zyv114, zyv114, zyv114, zyv114, zyv114, zyv114, zyv114, zyv114, zyv114, zyv15, zyv114, zyv114, zyv114, zyv114, zyv15, zyv15, zyv15, zyv15, zyv114, zyv114, zyv114])
noncomputable def zyr197 : List zC := [zyc60, zyc60, zyc60, zyc69, zyc10, zyc10, zyc10, zyc12, zyc70, zyc8, zyc8, zyc70, zyc8, zyc8, zyc266, zyc52]
noncomputable def zyh192 : zH := (126, [zyr9, zyr10, zyr11, zyr12, zyr13, zyr197, zyr6, zyr7], 0)
noncomputable def zyh193 : zH := (126, [zyr9, zyr10, zyr11, zyr12, zyr13, zyr197, zyr6, zyr7], zym9)
def zyv324 : zAV := .inl ((.ofNat 7, .ofNat 40), none)
noncomputable def zyc267 : zC := .inr (8, [zyv114, zyv15, zyv15, zyv15, zyv114, zyv114, zyv114, zyv114, zyv15, zyv114, zyv15, zyv15, zyv121, zyv17, zyv314, zyv324, zyv239, zyv114, zyv114, zyv114, zyv15, zyv36, zyv129, zyv114, zyv15, zyv114, zyv114, zyv15, zyv15, zyv114, zyv114, zyv114, zyv114, zyv114, zyv114, zyv114, zyv114, zyv114, zyv114, zyv15, zyv114, zyv114, zyv114, zyv114, zyv15, zyv15, zyv15, zyv15, zyv114, zyv114, zyv114])
noncomputable def zyr198 : List zC := [zyc60, zyc60, zyc60, zyc69, zyc10, zyc10, zyc10, zyc12, zyc70, zyc8, zyc8, zyc70, zyc8, zyc8, zyc267, zyc52]
noncomputable def zyh194 : zH := (126, [zyr9, zyr10, zyr11, zyr12, zyr13, zyr198, zyr6, zyr7], zym9)
noncomputable def zyc268 : zC := .inr (8, [zyv114, zyv15, zyv15, zyv15, zyv114, zyv114, zyv114, zyv114, zyv15, zyv114, zyv15, zyv15, zyv121, zyv17, zyv314, zyv324, zyv124, zyv114, zyv114, zyv114, zyv15, zyv36, zyv129, zyv114, zyv15, zyv114, zyv114, zyv15, zyv15, zyv114, zyv114, zyv114, zyv114, zyv114, zyv114, zyv114, zyv114, zyv114, zyv114, zyv15, zyv114, zyv114, zyv114, zyv114, zyv15, zyv15, zyv15, zyv15, zyv114, zyv114, zyv114])
noncomputable def zyr199 : List zC := [zyc60, zyc60, zyc60, zyc69, zyc10, zyc10, zyc10, zyc12, zyc70, zyc8, zyc8, zyc70, zyc8, zyc8, zyc268, zyc52]
noncomputable def zyh195 : zH := (126, [zyr9, zyr10, zyr11, zyr12, zyr13, zyr199, zyr6, zyr7], 0)
noncomputable def zyh196 : zH := (126, [zyr9, zyr10, zyr11, zyr12, zyr13, zyr199, zyr6, zyr7], zym9)
def zyv325 : zAV := .inl ((.ofNat 8, .ofNat 40), none)
noncomputable def zyc269 : zC := .inr (8, [zyv114, zyv15, zyv15, zyv15, zyv114, zyv114, zyv114, zyv114, zyv15, zyv114, zyv15, zyv15, zyv121, zyv17, zyv314, zyv325, zyv239, zyv114, zyv114, zyv114, zyv15, zyv36, zyv129, zyv114, zyv15, zyv114, zyv114, zyv15, zyv15, zyv114, zyv114, zyv114, zyv114, zyv114, zyv114, zyv114, zyv114, zyv114, zyv114, zyv15, zyv114, zyv114, zyv114, zyv114, zyv15, zyv15, zyv15, zyv15, zyv114, zyv114, zyv114])
noncomputable def zyr200 : List zC := [zyc60, zyc60, zyc60, zyc69, zyc10, zyc10, zyc10, zyc12, zyc70, zyc8, zyc8, zyc70, zyc8, zyc8, zyc269, zyc52]
noncomputable def zyh197 : zH := (126, [zyr9, zyr10, zyr11, zyr12, zyr13, zyr200, zyr6, zyr7], zym9)
noncomputable def zyc270 : zC := .inr (8, [zyv114, zyv15, zyv15, zyv15, zyv114, zyv114, zyv114, zyv114, zyv15, zyv114, zyv15, zyv15, zyv121, zyv17, zyv314, zyv325, zyv124, zyv114, zyv114, zyv114, zyv15, zyv36, zyv129, zyv114, zyv15, zyv114, zyv114, zyv15, zyv15, zyv114, zyv114, zyv114, zyv114, zyv114, zyv114, zyv114, zyv114, zyv114, zyv114, zyv15, zyv114, zyv114, zyv114, zyv114, zyv15, zyv15, zyv15, zyv15, zyv114, zyv114, zyv114])
noncomputable def zyr201 : List zC := [zyc60, zyc60, zyc60, zyc69, zyc10, zyc10, zyc10, zyc12, zyc70, zyc8, zyc8, zyc70, zyc8, zyc8, zyc270, zyc52]
noncomputable def zyh198 : zH := (126, [zyr9, zyr10, zyr11, zyr12, zyr13, zyr201, zyr6, zyr7], 0)
noncomputable def zyh199 : zH := (126, [zyr9, zyr10, zyr11, zyr12, zyr13, zyr201, zyr6, zyr7], zym9)
def zyv326 : zAV := .inl ((.ofNat 9, .ofNat 40), none)
noncomputable def zyc271 : zC := .inr (8, [zyv114, zyv15, zyv15, zyv15, zyv114, zyv114, zyv114, zyv114, zyv15, zyv114, zyv15, zyv15, zyv121, zyv17, zyv314, zyv326, zyv239, zyv114, zyv114, zyv114, zyv15, zyv36, zyv129, zyv114, zyv15, zyv114, zyv114, zyv15, zyv15, zyv114, zyv114, zyv114, zyv114, zyv114, zyv114, zyv114, zyv114, zyv114, zyv114, zyv15, zyv114, zyv114, zyv114, zyv114, zyv15, zyv15, zyv15, zyv15, zyv114, zyv114, zyv114])
noncomputable def zyr202 : List zC := [zyc60, zyc60, zyc60, zyc69, zyc10, zyc10, zyc10, zyc12, zyc70, zyc8, zyc8, zyc70, zyc8, zyc8, zyc271, zyc52]
noncomputable def zyh200 : zH := (126, [zyr9, zyr10, zyr11, zyr12, zyr13, zyr202, zyr6, zyr7], zym9)
noncomputable def zyc272 : zC := .inr (8, [zyv114, zyv15, zyv15, zyv15, zyv114, zyv114, zyv114, zyv114, zyv15, zyv114, zyv15, zyv15, zyv121, zyv17, zyv314, zyv326, zyv124, zyv114, zyv114, zyv114, zyv15, zyv36, zyv129, zyv114, zyv15, zyv114, zyv114, zyv15, zyv15, zyv114, zyv114, zyv114, zyv114, zyv114, zyv114, zyv114, zyv114, zyv114, zyv114, zyv15, zyv114, zyv114, zyv114, zyv114, zyv15, zyv15, zyv15, zyv15, zyv114, zyv114, zyv114])
noncomputable def zyr203 : List zC := [zyc60, zyc60, zyc60, zyc69, zyc10, zyc10, zyc10, zyc12, zyc70, zyc8, zyc8, zyc70, zyc8, zyc8, zyc272, zyc52]
noncomputable def zyh201 : zH := (126, [zyr9, zyr10, zyr11, zyr12, zyr13, zyr203, zyr6, zyr7], 0)
noncomputable def zyh202 : zH := (126, [zyr9, zyr10, zyr11, zyr12, zyr13, zyr203, zyr6, zyr7], zym9)
def zyv327 : zAV := .inl ((.ofNat 10, .ofNat 40), none)
noncomputable def zyc273 : zC := .inr (8, [zyv114, zyv15, zyv15, zyv15, zyv114, zyv114, zyv114, zyv114, zyv15, zyv114, zyv15, zyv15, zyv121, zyv17, zyv314, zyv327, zyv239, zyv114, zyv114, zyv114, zyv15, zyv36, zyv129, zyv114, zyv15, zyv114, zyv114, zyv15, zyv15, zyv114, zyv114, zyv114, zyv114, zyv114, zyv114, zyv114, zyv114, zyv114, zyv114, zyv15, zyv114, zyv114, zyv114, zyv114, zyv15, zyv15, zyv15, zyv15, zyv114, zyv114, zyv114])
noncomputable def zyr204 : List zC := [zyc60, zyc60, zyc60, zyc69, zyc10, zyc10, zyc10, zyc12, zyc70, zyc8, zyc8, zyc70, zyc8, zyc8, zyc273, zyc52]
noncomputable def zyh203 : zH := (126, [zyr9, zyr10, zyr11, zyr12, zyr13, zyr204, zyr6, zyr7], zym9)
def zyv328 : zAV := .inl ((.ofNat 11, .ofNat 40), none)
noncomputable def zyc274 : zC := .inr (8, [zyv114, zyv15, zyv15, zyv15, zyv114, zyv114, zyv114, zyv114, zyv15, zyv114, zyv15, zyv15, zyv121, zyv17, zyv314, zyv328, zyv124, zyv114, zyv114, zyv114, zyv15, zyv36, zyv129, zyv114, zyv15, zyv114, zyv114, zyv15, zyv15, zyv114, zyv114, zyv114, zyv114, zyv114, zyv114, zyv114, zyv114, zyv114, zyv114, zyv15, zyv114, zyv114, zyv114, zyv114, zyv15, zyv15, zyv15, zyv15, zyv114, zyv114, zyv114])
noncomputable def zyr205 : List zC := [zyc60, zyc60, zyc60, zyc69, zyc10, zyc10, zyc10, zyc12, zyc70, zyc8, zyc8, zyc70, zyc8, zyc8, zyc274, zyc52]
noncomputable def zyh204 : zH := (126, [zyr9, zyr10, zyr11, zyr12, zyr13, zyr205, zyr6, zyr7], 0)
noncomputable def zyh205 : zH := (126, [zyr9, zyr10, zyr11, zyr12, zyr13, zyr205, zyr6, zyr7], zym9)
def zyv329 : zAV := .inl ((.ofNat 12, .ofNat 40), none)
noncomputable def zyc275 : zC := .inr (8, [zyv114, zyv15, zyv15, zyv15, zyv114, zyv114, zyv114, zyv114, zyv15, zyv114, zyv15, zyv15, zyv121, zyv17, zyv314, zyv329, zyv239, zyv114, zyv114, zyv114, zyv15, zyv36, zyv129, zyv114, zyv15, zyv114, zyv114, zyv15, zyv15, zyv114, zyv114, zyv114, zyv114, zyv114, zyv114, zyv114, zyv114, zyv114, zyv114, zyv15, zyv114, zyv114, zyv114, zyv114, zyv15, zyv15, zyv15, zyv15, zyv114, zyv114, zyv114])
noncomputable def zyr206 : List zC := [zyc60, zyc60, zyc60, zyc69, zyc10, zyc10, zyc10, zyc12, zyc70, zyc8, zyc8, zyc70, zyc8, zyc8, zyc275, zyc52]
noncomputable def zyh206 : zH := (126, [zyr9, zyr10, zyr11, zyr12, zyr13, zyr206, zyr6, zyr7], zym9)
noncomputable def zyc276 : zC := .inr (8, [zyv114, zyv15, zyv15, zyv15, zyv114, zyv114, zyv114, zyv114, zyv15, zyv114, zyv15, zyv15, zyv121, zyv17, zyv314, zyv329, zyv124, zyv114, zyv114, zyv114, zyv15, zyv36, zyv129, zyv114, zyv15, zyv114, zyv114, zyv15, zyv15, zyv114, zyv114, zyv114, zyv114, zyv114, zyv114, zyv114, zyv114, zyv114, zyv114, zyv15, zyv114, zyv114, zyv114, zyv114, zyv15, zyv15, zyv15, zyv15, zyv114, zyv114, zyv114])
noncomputable def zyr207 : List zC := [zyc60, zyc60, zyc60, zyc69, zyc10, zyc10, zyc10, zyc12, zyc70, zyc8, zyc8, zyc70, zyc8, zyc8, zyc276, zyc52]
noncomputable def zyh207 : zH := (126, [zyr9, zyr10, zyr11, zyr12, zyr13, zyr207, zyr6, zyr7], 0)
noncomputable def zyh208 : zH := (126, [zyr9, zyr10, zyr11, zyr12, zyr13, zyr207, zyr6, zyr7], zym9)
def zyv330 : zAV := .inl ((.ofNat 13, .ofNat 40), none)
noncomputable def zyc277 : zC := .inr (8, [zyv114, zyv15, zyv15, zyv15, zyv114, zyv114, zyv114, zyv114, zyv15, zyv114, zyv15, zyv15, zyv121, zyv17, zyv314, zyv330, zyv239, zyv114, zyv114, zyv114, zyv15, zyv36, zyv129, zyv114, zyv15, zyv114, zyv114, zyv15, zyv15, zyv114, zyv114, zyv114, zyv114, zyv114, zyv114, zyv114, zyv114, zyv114, zyv114, zyv15, zyv114, zyv114, zyv114, zyv114, zyv15, zyv15, zyv15, zyv15, zyv114, zyv114, zyv114])
noncomputable def zyr208 : List zC := [zyc60, zyc60, zyc60, zyc69, zyc10, zyc10, zyc10, zyc12, zyc70, zyc8, zyc8, zyc70, zyc8, zyc8, zyc277, zyc52]
noncomputable def zyh209 : zH := (126, [zyr9, zyr10, zyr11, zyr12, zyr13, zyr208, zyr6, zyr7], zym9)
noncomputable def zyc278 : zC := .inr (8, [zyv114, zyv15, zyv15, zyv15, zyv114, zyv114, zyv114, zyv114, zyv15, zyv114, zyv15, zyv15, zyv121, zyv17, zyv314, zyv330, zyv124, zyv114, zyv114, zyv114, zyv15, zyv36, zyv129, zyv114, zyv15, zyv114, zyv114, zyv15, zyv15, zyv114, zyv114, zyv114, zyv114, zyv114, zyv114, zyv114, zyv114, zyv114, zyv114, zyv15, zyv114, zyv114, zyv114, zyv114, zyv15, zyv15, zyv15, zyv15, zyv114, zyv114, zyv114])
noncomputable def zyr209 : List zC := [zyc60, zyc60, zyc60, zyc69, zyc10, zyc10, zyc10, zyc12, zyc70, zyc8, zyc8, zyc70, zyc8, zyc8, zyc278, zyc52]
noncomputable def zyh210 : zH := (126, [zyr9, zyr10, zyr11, zyr12, zyr13, zyr209, zyr6, zyr7], 0)
noncomputable def zyh211 : zH := (126, [zyr9, zyr10, zyr11, zyr12, zyr13, zyr209, zyr6, zyr7], zym9)
def zyv331 : zAV := .inl ((.ofNat 14, .ofNat 40), none)
noncomputable def zyc279 : zC := .inr (8, [zyv114, zyv15, zyv15, zyv15, zyv114, zyv114, zyv114, zyv114, zyv15, zyv114, zyv15, zyv15, zyv121, zyv17, zyv314, zyv331, zyv239, zyv114, zyv114, zyv114, zyv15, zyv36, zyv129, zyv114, zyv15, zyv114, zyv114, zyv15, zyv15, zyv114, zyv114, zyv114, zyv114, zyv114, zyv114, zyv114, zyv114, zyv114, zyv114, zyv15, zyv114, zyv114, zyv114, zyv114, zyv15, zyv15, zyv15, zyv15, zyv114, zyv114, zyv114])
noncomputable def zyr210 : List zC := [zyc60, zyc60, zyc60, zyc69, zyc10, zyc10, zyc10, zyc12, zyc70, zyc8, zyc8, zyc70, zyc8, zyc8, zyc279, zyc52]
noncomputable def zyh212 : zH := (126, [zyr9, zyr10, zyr11, zyr12, zyr13, zyr210, zyr6, zyr7], zym9)
noncomputable def zyc280 : zC := .inr (8, [zyv114, zyv15, zyv15, zyv15, zyv114, zyv114, zyv114, zyv114, zyv15, zyv114, zyv15, zyv15, zyv121, zyv17, zyv314, zyv331, zyv124, zyv114, zyv114, zyv114, zyv15, zyv36, zyv129, zyv114, zyv15, zyv114, zyv114, zyv15, zyv15, zyv114, zyv114, zyv114, zyv114, zyv114, zyv114, zyv114, zyv114, zyv114, zyv114, zyv15, zyv114, zyv114, zyv114, zyv114, zyv15, zyv15, zyv15, zyv15, zyv114, zyv114, zyv114])
noncomputable def zyr211 : List zC := [zyc60, zyc60, zyc60, zyc69, zyc10, zyc10, zyc10, zyc12, zyc70, zyc8, zyc8, zyc70, zyc8, zyc8, zyc280, zyc52]
noncomputable def zyh213 : zH := (126, [zyr9, zyr10, zyr11, zyr12, zyr13, zyr211, zyr6, zyr7], 0)
noncomputable def zyh214 : zH := (126, [zyr9, zyr10, zyr11, zyr12, zyr13, zyr211, zyr6, zyr7], zym9)
def zyv332 : zAV := .inl ((.ofNat 15, .ofNat 40), none)
noncomputable def zyc281 : zC := .inr (8, [zyv114, zyv15, zyv15, zyv15, zyv114, zyv114, zyv114, zyv114, zyv15, zyv114, zyv15, zyv15, zyv121, zyv17, zyv314, zyv332, zyv239, zyv114, zyv114, zyv114, zyv15, zyv36, zyv129, zyv114, zyv15, zyv114, zyv114, zyv15, zyv15, zyv114, zyv114, zyv114, zyv114, zyv114, zyv114, zyv114, zyv114, zyv114, zyv114, zyv15, zyv114, zyv114, zyv114, zyv114, zyv15, zyv15, zyv15, zyv15, zyv114, zyv114, zyv114])
noncomputable def zyr212 : List zC := [zyc60, zyc60, zyc60, zyc69, zyc10, zyc10, zyc10, zyc12, zyc70, zyc8, zyc8, zyc70, zyc8, zyc8, zyc281, zyc52]
noncomputable def zyh215 : zH := (126, [zyr9, zyr10, zyr11, zyr12, zyr13, zyr212, zyr6, zyr7], zym9)
noncomputable def zyc282 : zC := .inr (8, [zyv114, zyv15, zyv15, zyv15, zyv114, zyv114, zyv114, zyv114, zyv15, zyv114, zyv15, zyv15, zyv121, zyv17, zyv314, zyv332, zyv124, zyv114, zyv114, zyv114, zyv15, zyv36, zyv129, zyv114, zyv15, zyv114, zyv114, zyv15, zyv15, zyv114, zyv114, zyv114, zyv114, zyv114, zyv114, zyv114, zyv114, zyv114, zyv114, zyv15, zyv114, zyv114, zyv114, zyv114, zyv15, zyv15, zyv15, zyv15, zyv114, zyv114, zyv114])
noncomputable def zyr213 : List zC := [zyc60, zyc60, zyc60, zyc69, zyc10, zyc10, zyc10, zyc12, zyc70, zyc8, zyc8, zyc70, zyc8, zyc8, zyc282, zyc52]
noncomputable def zyh216 : zH := (126, [zyr9, zyr10, zyr11, zyr12, zyr13, zyr213, zyr6, zyr7], 0)
noncomputable def zyh217 : zH := (126, [zyr9, zyr10, zyr11, zyr12, zyr13, zyr213, zyr6, zyr7], zym9)
def zyv333 : zAV := .inl ((.ofNat 16, .ofNat 40), none)
noncomputable def zyc283 : zC := .inr (8, [zyv114, zyv15, zyv15, zyv15, zyv114, zyv114, zyv114, zyv114, zyv15, zyv114, zyv15, zyv15, zyv121, zyv17, zyv314, zyv333, zyv239, zyv114, zyv114, zyv114, zyv15, zyv36, zyv129, zyv114, zyv15, zyv114, zyv114, zyv15, zyv15, zyv114, zyv114, zyv114, zyv114, zyv114, zyv114, zyv114, zyv114, zyv114, zyv114, zyv15, zyv114, zyv114, zyv114, zyv114, zyv15, zyv15, zyv15, zyv15, zyv114, zyv114, zyv114])
noncomputable def zyr214 : List zC := [zyc60, zyc60, zyc60, zyc69, zyc10, zyc10, zyc10, zyc12, zyc70, zyc8, zyc8, zyc70, zyc8, zyc8, zyc283, zyc52]
noncomputable def zyh218 : zH := (126, [zyr9, zyr10, zyr11, zyr12, zyr13, zyr214, zyr6, zyr7], zym9)
noncomputable def zyc284 : zC := .inr (8, [zyv114, zyv15, zyv15, zyv15, zyv114, zyv114, zyv114, zyv114, zyv15, zyv114, zyv15, zyv15, zyv121, zyv17, zyv314, zyv333, zyv124, zyv114, zyv114, zyv114, zyv15, zyv36, zyv129, zyv114, zyv15, zyv114, zyv114, zyv15, zyv15, zyv114, zyv114, zyv114, zyv114, zyv114, zyv114, zyv114, zyv114, zyv114, zyv114, zyv15, zyv114, zyv114, zyv114, zyv114, zyv15, zyv15, zyv15, zyv15, zyv114, zyv114, zyv114])
noncomputable def zyr215 : List zC := [zyc60, zyc60, zyc60, zyc69, zyc10, zyc10, zyc10, zyc12, zyc70, zyc8, zyc8, zyc70, zyc8, zyc8, zyc284, zyc52]
noncomputable def zyh219 : zH := (126, [zyr9, zyr10, zyr11, zyr12, zyr13, zyr215, zyr6, zyr7], 0)
noncomputable def zyh220 : zH := (126, [zyr9, zyr10, zyr11, zyr12, zyr13, zyr215, zyr6, zyr7], zym9)
def zyv334 : zAV := .inl ((.ofNat 17, .ofNat 40), none)
noncomputable def zyc285 : zC := .inr (8, [zyv114, zyv15, zyv15, zyv15, zyv114, zyv114, zyv114, zyv114, zyv15, zyv114, zyv15, zyv15, zyv121, zyv17, zyv314, zyv334, zyv239, zyv114, zyv114, zyv114, zyv15, zyv36, zyv129, zyv114, zyv15, zyv114, zyv114, zyv15, zyv15, zyv114, zyv114, zyv114, zyv114, zyv114, zyv114, zyv114, zyv114, zyv114, zyv114, zyv15, zyv114, zyv114, zyv114, zyv114, zyv15, zyv15, zyv15, zyv15, zyv114, zyv114, zyv114])
noncomputable def zyr216 : List zC := [zyc60, zyc60, zyc60, zyc69, zyc10, zyc10, zyc10, zyc12, zyc70, zyc8, zyc8, zyc70, zyc8, zyc8, zyc285, zyc52]
noncomputable def zyh221 : zH := (126, [zyr9, zyr10, zyr11, zyr12, zyr13, zyr216, zyr6, zyr7], zym9)
noncomputable def zyc286 : zC := .inr (8, [zyv114, zyv15, zyv15, zyv15, zyv114, zyv114, zyv114, zyv114, zyv15, zyv114, zyv15, zyv15, zyv121, zyv17, zyv314, zyv334, zyv124, zyv114, zyv114, zyv114, zyv15, zyv36, zyv129, zyv114, zyv15, zyv114, zyv114, zyv15, zyv15, zyv114, zyv114, zyv114, zyv114, zyv114, zyv114, zyv114, zyv114, zyv114, zyv114, zyv15, zyv114, zyv114, zyv114, zyv114, zyv15, zyv15, zyv15, zyv15, zyv114, zyv114, zyv114])
noncomputable def zyr217 : List zC := [zyc60, zyc60, zyc60, zyc69, zyc10, zyc10, zyc10, zyc12, zyc70, zyc8, zyc8, zyc70, zyc8, zyc8, zyc286, zyc52]
noncomputable def zyh222 : zH := (126, [zyr9, zyr10, zyr11, zyr12, zyr13, zyr217, zyr6, zyr7], 0)
noncomputable def zyh223 : zH := (126, [zyr9, zyr10, zyr11, zyr12, zyr13, zyr217, zyr6, zyr7], zym9)
def zyv335 : zAV := .inl ((.ofNat 18, .ofNat 40), none)
noncomputable def zyc287 : zC := .inr (8, [zyv114, zyv15, zyv15, zyv15, zyv114, zyv114, zyv114, zyv114, zyv15, zyv114, zyv15, zyv15, zyv121, zyv17, zyv314, zyv335, zyv239, zyv114, zyv114, zyv114, zyv15, zyv36, zyv129, zyv114, zyv15, zyv114, zyv114, zyv15, zyv15, zyv114, zyv114, zyv114, zyv114, zyv114, zyv114, zyv114, zyv114, zyv114, zyv114, zyv15, zyv114, zyv114, zyv114, zyv114, zyv15, zyv15, zyv15, zyv15, zyv114, zyv114, zyv114])
noncomputable def zyr218 : List zC := [zyc60, zyc60, zyc60, zyc69, zyc10, zyc10, zyc10, zyc12, zyc70, zyc8, zyc8, zyc70, zyc8, zyc8, zyc287, zyc52]
noncomputable def zyh224 : zH := (126, [zyr9, zyr10, zyr11, zyr12, zyr13, zyr218, zyr6, zyr7], zym9)
noncomputable def zyc288 : zC := .inr (8, [zyv114, zyv15, zyv15, zyv15, zyv114, zyv114, zyv114, zyv114, zyv15, zyv114, zyv15, zyv15, zyv121, zyv17, zyv314, zyv335, zyv124, zyv114, zyv114, zyv114, zyv15, zyv36, zyv129, zyv114, zyv15, zyv114, zyv114, zyv15, zyv15, zyv114, zyv114, zyv114, zyv114, zyv114, zyv114, zyv114, zyv114, zyv114, zyv114, zyv15, zyv114, zyv114, zyv114, zyv114, zyv15, zyv15, zyv15, zyv15, zyv114, zyv114, zyv114])
noncomputable def zyr219 : List zC := [zyc60, zyc60, zyc60, zyc69, zyc10, zyc10, zyc10, zyc12, zyc70, zyc8, zyc8, zyc70, zyc8, zyc8, zyc288, zyc52]
noncomputable def zyh225 : zH := (126, [zyr9, zyr10, zyr11, zyr12, zyr13, zyr219, zyr6, zyr7], 0)
noncomputable def zyh226 : zH := (126, [zyr9, zyr10, zyr11, zyr12, zyr13, zyr219, zyr6, zyr7], zym9)
def zyv336 : zAV := .inl ((.ofNat 19, .ofNat 40), none)
noncomputable def zyc289 : zC := .inr (8, [zyv114, zyv15, zyv15, zyv15, zyv114, zyv114, zyv114, zyv114, zyv15, zyv114, zyv15, zyv15, zyv121, zyv17, zyv314, zyv336, zyv239, zyv114, zyv114, zyv114, zyv15, zyv36, zyv129, zyv114, zyv15, zyv114, zyv114, zyv15, zyv15, zyv114, zyv114, zyv114, zyv114, zyv114, zyv114, zyv114, zyv114, zyv114, zyv114, zyv15, zyv114, zyv114, zyv114, zyv114, zyv15, zyv15, zyv15, zyv15, zyv114, zyv114, zyv114])
noncomputable def zyr220 : List zC := [zyc60, zyc60, zyc60, zyc69, zyc10, zyc10, zyc10, zyc12, zyc70, zyc8, zyc8, zyc70, zyc8, zyc8, zyc289, zyc52]
noncomputable def zyh227 : zH := (126, [zyr9, zyr10, zyr11, zyr12, zyr13, zyr220, zyr6, zyr7], zym9)
noncomputable def zyc290 : zC := .inr (8, [zyv114, zyv15, zyv15, zyv15, zyv114, zyv114, zyv114, zyv114, zyv15, zyv114, zyv15, zyv15, zyv121, zyv17, zyv314, zyv336, zyv124, zyv114, zyv114, zyv114, zyv15, zyv36, zyv129, zyv114, zyv15, zyv114, zyv114, zyv15, zyv15, zyv114, zyv114, zyv114, zyv114, zyv114, zyv114, zyv114, zyv114, zyv114, zyv114, zyv15, zyv114, zyv114, zyv114, zyv114, zyv15, zyv15, zyv15, zyv15, zyv114, zyv114, zyv114])
noncomputable def zyr221 : List zC := [zyc60, zyc60, zyc60, zyc69, zyc10, zyc10, zyc10, zyc12, zyc70, zyc8, zyc8, zyc70, zyc8, zyc8, zyc290, zyc52]
noncomputable def zyh228 : zH := (126, [zyr9, zyr10, zyr11, zyr12, zyr13, zyr221, zyr6, zyr7], 0)
noncomputable def zyh229 : zH := (126, [zyr9, zyr10, zyr11, zyr12, zyr13, zyr221, zyr6, zyr7], zym9)
def zyv337 : zAV := .inl ((.ofNat 20, .ofNat 40), none)
noncomputable def zyc291 : zC := .inr (8, [zyv114, zyv15, zyv15, zyv15, zyv114, zyv114, zyv114, zyv114, zyv15, zyv114, zyv15, zyv15, zyv121, zyv17, zyv314, zyv337, zyv239, zyv114, zyv114, zyv114, zyv15, zyv36, zyv129, zyv114, zyv15, zyv114, zyv114, zyv15, zyv15, zyv114, zyv114, zyv114, zyv114, zyv114, zyv114, zyv114, zyv114, zyv114, zyv114, zyv15, zyv114, zyv114, zyv114, zyv114, zyv15, zyv15, zyv15, zyv15, zyv114, zyv114, zyv114])
noncomputable def zyr222 : List zC := [zyc60, zyc60, zyc60, zyc69, zyc10, zyc10, zyc10, zyc12, zyc70, zyc8, zyc8, zyc70, zyc8, zyc8, zyc291, zyc52]
noncomputable def zyh230 : zH := (126, [zyr9, zyr10, zyr11, zyr12, zyr13, zyr222, zyr6, zyr7], zym9)
noncomputable def zyc292 : zC := .inr (8, [zyv114, zyv15, zyv15, zyv15, zyv114, zyv114, zyv114, zyv114, zyv15, zyv114, zyv15, zyv15, zyv121, zyv17, zyv314, zyv337, zyv124, zyv114, zyv114, zyv114, zyv15, zyv36, zyv129, zyv114, zyv15, zyv114, zyv114, zyv15, zyv15, zyv114, zyv114, zyv114, zyv114, zyv114, zyv114, zyv114, zyv114, zyv114, zyv114, zyv15, zyv114, zyv114, zyv114, zyv114, zyv15, zyv15, zyv15, zyv15, zyv114, zyv114, zyv114])
noncomputable def zyr223 : List zC := [zyc60, zyc60, zyc60, zyc69, zyc10, zyc10, zyc10, zyc12, zyc70, zyc8, zyc8, zyc70, zyc8, zyc8, zyc292, zyc52]
noncomputable def zyh231 : zH := (126, [zyr9, zyr10, zyr11, zyr12, zyr13, zyr223, zyr6, zyr7], 0)
noncomputable def zyh232 : zH := (126, [zyr9, zyr10, zyr11, zyr12, zyr13, zyr223, zyr6, zyr7], zym9)
def zyv338 : zAV := .inl ((.ofNat 21, .ofNat 40), none)
noncomputable def zyc293 : zC := .inr (8, [zyv114, zyv15, zyv15, zyv15, zyv114, zyv114, zyv114, zyv114, zyv15, zyv114, zyv15, zyv15, zyv121, zyv17, zyv314, zyv338, zyv239, zyv114, zyv114, zyv114, zyv15, zyv36, zyv129, zyv114, zyv15, zyv114, zyv114, zyv15, zyv15, zyv114, zyv114, zyv114, zyv114, zyv114, zyv114, zyv114, zyv114, zyv114, zyv114, zyv15, zyv114, zyv114, zyv114, zyv114, zyv15, zyv15, zyv15, zyv15, zyv114, zyv114, zyv114])
noncomputable def zyr224 : List zC := [zyc60, zyc60, zyc60, zyc69, zyc10, zyc10, zyc10, zyc12, zyc70, zyc8, zyc8, zyc70, zyc8, zyc8, zyc293, zyc52]
noncomputable def zyh233 : zH := (126, [zyr9, zyr10, zyr11, zyr12, zyr13, zyr224, zyr6, zyr7], zym9)
noncomputable def zyc294 : zC := .inr (8, [zyv114, zyv15, zyv15, zyv15, zyv114, zyv114, zyv114, zyv114, zyv15, zyv114, zyv15, zyv15, zyv121, zyv17, zyv314, zyv338, zyv124, zyv114, zyv114, zyv114, zyv15, zyv36, zyv129, zyv114, zyv15, zyv114, zyv114, zyv15, zyv15, zyv114, zyv114, zyv114, zyv114, zyv114, zyv114, zyv114, zyv114, zyv114, zyv114, zyv15, zyv114, zyv114, zyv114, zyv114, zyv15, zyv15, zyv15, zyv15, zyv114, zyv114, zyv114])
noncomputable def zyr225 : List zC := [zyc60, zyc60, zyc60, zyc69, zyc10, zyc10, zyc10, zyc12, zyc70, zyc8, zyc8, zyc70, zyc8, zyc8, zyc294, zyc52]
noncomputable def zyh234 : zH := (126, [zyr9, zyr10, zyr11, zyr12, zyr13, zyr225, zyr6, zyr7], 0)
noncomputable def zyh235 : zH := (126, [zyr9, zyr10, zyr11, zyr12, zyr13, zyr225, zyr6, zyr7], zym9)
def zyv339 : zAV := .inl ((.ofNat 22, .ofNat 40), none)
noncomputable def zyc295 : zC := .inr (8, [zyv114, zyv15, zyv15, zyv15, zyv114, zyv114, zyv114, zyv114, zyv15, zyv114, zyv15, zyv15, zyv121, zyv17, zyv314, zyv339, zyv239, zyv114, zyv114, zyv114, zyv15, zyv36, zyv129, zyv114, zyv15, zyv114, zyv114, zyv15, zyv15, zyv114, zyv114, zyv114, zyv114, zyv114, zyv114, zyv114, zyv114, zyv114, zyv114, zyv15, zyv114, zyv114, zyv114, zyv114, zyv15, zyv15, zyv15, zyv15, zyv114, zyv114, zyv114])
noncomputable def zyr226 : List zC := [zyc60, zyc60, zyc60, zyc69, zyc10, zyc10, zyc10, zyc12, zyc70, zyc8, zyc8, zyc70, zyc8, zyc8, zyc295, zyc52]
noncomputable def zyh236 : zH := (126, [zyr9, zyr10, zyr11, zyr12, zyr13, zyr226, zyr6, zyr7], zym9)
noncomputable def zyc296 : zC := .inr (8, [zyv114, zyv15, zyv15, zyv15, zyv114, zyv114, zyv114, zyv114, zyv15, zyv114, zyv15, zyv15, zyv121, zyv17, zyv314, zyv339, zyv124, zyv114, zyv114, zyv114, zyv15, zyv36, zyv129, zyv114, zyv15, zyv114, zyv114, zyv15, zyv15, zyv114, zyv114, zyv114, zyv114, zyv114, zyv114, zyv114, zyv114, zyv114, zyv114, zyv15, zyv114, zyv114, zyv114, zyv114, zyv15, zyv15, zyv15, zyv15, zyv114, zyv114, zyv114])
noncomputable def zyr227 : List zC := [zyc60, zyc60, zyc60, zyc69, zyc10, zyc10, zyc10, zyc12, zyc70, zyc8, zyc8, zyc70, zyc8, zyc8, zyc296, zyc52]
noncomputable def zyh237 : zH := (126, [zyr9, zyr10, zyr11, zyr12, zyr13, zyr227, zyr6, zyr7], 0)
noncomputable def zyh238 : zH := (126, [zyr9, zyr10, zyr11, zyr12, zyr13, zyr227, zyr6, zyr7], zym9)
def zyv340 : zAV := .inl ((.ofNat 23, .ofNat 40), none)
noncomputable def zyc297 : zC := .inr (8, [zyv114, zyv15, zyv15, zyv15, zyv114, zyv114, zyv114, zyv114, zyv15, zyv114, zyv15, zyv15, zyv121, zyv17, zyv314, zyv340, zyv239, zyv114, zyv114, zyv114, zyv15, zyv36, zyv129, zyv114, zyv15, zyv114, zyv114, zyv15, zyv15, zyv114, zyv114, zyv114, zyv114, zyv114, zyv114, zyv114, zyv114, zyv114, zyv114, zyv15, zyv114, zyv114, zyv114, zyv114, zyv15, zyv15, zyv15, zyv15, zyv114, zyv114, zyv114])
noncomputable def zyr228 : List zC := [zyc60, zyc60, zyc60, zyc69, zyc10, zyc10, zyc10, zyc12, zyc70, zyc8, zyc8, zyc70, zyc8, zyc8, zyc297, zyc52]
noncomputable def zyh239 : zH := (126, [zyr9, zyr10, zyr11, zyr12, zyr13, zyr228, zyr6, zyr7], zym9)
noncomputable def zyc298 : zC := .inr (8, [zyv114, zyv15, zyv15, zyv15, zyv114, zyv114, zyv114, zyv114, zyv15, zyv114, zyv15, zyv15, zyv121, zyv17, zyv314, zyv340, zyv124, zyv114, zyv114, zyv114, zyv15, zyv36, zyv129, zyv114, zyv15, zyv114, zyv114, zyv15, zyv15, zyv114, zyv114, zyv114, zyv114, zyv114, zyv114, zyv114, zyv114, zyv114, zyv114, zyv15, zyv114, zyv114, zyv114, zyv114, zyv15, zyv15, zyv15, zyv15, zyv114, zyv114, zyv114])
noncomputable def zyr229 : List zC := [zyc60, zyc60, zyc60, zyc69, zyc10, zyc10, zyc10, zyc12, zyc70, zyc8, zyc8, zyc70, zyc8, zyc8, zyc298, zyc52]
noncomputable def zyh240 : zH := (126, [zyr9, zyr10, zyr11, zyr12, zyr13, zyr229, zyr6, zyr7], 0)
noncomputable def zyh241 : zH := (126, [zyr9, zyr10, zyr11, zyr12, zyr13, zyr229, zyr6, zyr7], zym9)
def zyv341 : zAV := .inl ((.ofNat 24, .ofNat 40), none)
noncomputable def zyc299 : zC := .inr (8, [zyv114, zyv15, zyv15, zyv15, zyv114, zyv114, zyv114, zyv114, zyv15, zyv114, zyv15, zyv15, zyv121, zyv17, zyv314, zyv341, zyv239, zyv114, zyv114, zyv114, zyv15, zyv36, zyv129, zyv114, zyv15, zyv114, zyv114, zyv15, zyv15, zyv114, zyv114, zyv114, zyv114, zyv114, zyv114, zyv114, zyv114, zyv114, zyv114, zyv15, zyv114, zyv114, zyv114, zyv114, zyv15, zyv15, zyv15, zyv15, zyv114, zyv114, zyv114])
noncomputable def zyr230 : List zC := [zyc60, zyc60, zyc60, zyc69, zyc10, zyc10, zyc10, zyc12, zyc70, zyc8, zyc8, zyc70, zyc8, zyc8, zyc299, zyc52]
noncomputable def zyh242 : zH := (126, [zyr9, zyr10, zyr11, zyr12, zyr13, zyr230, zyr6, zyr7], zym9)
noncomputable def zyc300 : zC := .inr (8, [zyv114, zyv15, zyv15, zyv15, zyv114, zyv114, zyv114, zyv114, zyv15, zyv114, zyv15, zyv15, zyv121, zyv17, zyv314, zyv341, zyv124, zyv114, zyv114, zyv114, zyv15, zyv36, zyv129, zyv114, zyv15, zyv114, zyv114, zyv15, zyv15, zyv114, zyv114, zyv114, zyv114, zyv114, zyv114, zyv114, zyv114, zyv114, zyv114, zyv15, zyv114, zyv114, zyv114, zyv114, zyv15, zyv15, zyv15, zyv15, zyv114, zyv114, zyv114])
noncomputable def zyr231 : List zC := [zyc60, zyc60, zyc60, zyc69, zyc10, zyc10, zyc10, zyc12, zyc70, zyc8, zyc8, zyc70, zyc8, zyc8, zyc300, zyc52]
noncomputable def zyh243 : zH := (126, [zyr9, zyr10, zyr11, zyr12, zyr13, zyr231, zyr6, zyr7], 0)
noncomputable def zyh244 : zH := (126, [zyr9, zyr10, zyr11, zyr12, zyr13, zyr231, zyr6, zyr7], zym9)
def zyv342 : zAV := .inl ((.ofNat 25, .ofNat 40), none)
noncomputable def zyc301 : zC := .inr (8, [zyv114, zyv15, zyv15, zyv15, zyv114, zyv114, zyv114, zyv114, zyv15, zyv114, zyv15, zyv15, zyv121, zyv17, zyv314, zyv342, zyv239, zyv114, zyv114, zyv114, zyv15, zyv36, zyv129, zyv114, zyv15, zyv114, zyv114, zyv15, zyv15, zyv114, zyv114, zyv114, zyv114, zyv114, zyv114, zyv114, zyv114, zyv114, zyv114, zyv15, zyv114, zyv114, zyv114, zyv114, zyv15, zyv15, zyv15, zyv15, zyv114, zyv114, zyv114])
noncomputable def zyr232 : List zC := [zyc60, zyc60, zyc60, zyc69, zyc10, zyc10, zyc10, zyc12, zyc70, zyc8, zyc8, zyc70, zyc8, zyc8, zyc301, zyc52]
noncomputable def zyh245 : zH := (126, [zyr9, zyr10, zyr11, zyr12, zyr13, zyr232, zyr6, zyr7], zym9)
noncomputable def zyc302 : zC := .inr (8, [zyv114, zyv15, zyv15, zyv15, zyv114, zyv114, zyv114, zyv114, zyv15, zyv114, zyv15, zyv15, zyv121, zyv17, zyv314, zyv342, zyv124, zyv114, zyv114, zyv114, zyv15, zyv36, zyv129, zyv114, zyv15, zyv114, zyv114, zyv15, zyv15, zyv114, zyv114, zyv114, zyv114, zyv114, zyv114, zyv114, zyv114, zyv114, zyv114, zyv15, zyv114, zyv114, zyv114, zyv114, zyv15, zyv15, zyv15, zyv15, zyv114, zyv114, zyv114])
noncomputable def zyr233 : List zC := [zyc60, zyc60, zyc60, zyc69, zyc10, zyc10, zyc10, zyc12, zyc70, zyc8, zyc8, zyc70, zyc8, zyc8, zyc302, zyc52]
noncomputable def zyh246 : zH := (126, [zyr9, zyr10, zyr11, zyr12, zyr13, zyr233, zyr6, zyr7], 0)
noncomputable def zyh247 : zH := (126, [zyr9, zyr10, zyr11, zyr12, zyr13, zyr233, zyr6, zyr7], zym9)
def zyv343 : zAV := .inl ((.ofNat 26, .ofNat 40), none)
noncomputable def zyc303 : zC := .inr (8, [zyv114, zyv15, zyv15, zyv15, zyv114, zyv114, zyv114, zyv114, zyv15, zyv114, zyv15, zyv15, zyv121, zyv17, zyv314, zyv343, zyv239, zyv114, zyv114, zyv114, zyv15, zyv36, zyv129, zyv114, zyv15, zyv114, zyv114, zyv15, zyv15, zyv114, zyv114, zyv114, zyv114, zyv114, zyv114, zyv114, zyv114, zyv114, zyv114, zyv15, zyv114, zyv114, zyv114, zyv114, zyv15, zyv15, zyv15, zyv15, zyv114, zyv114, zyv114])
noncomputable def zyr234 : List zC := [zyc60, zyc60, zyc60, zyc69, zyc10, zyc10, zyc10, zyc12, zyc70, zyc8, zyc8, zyc70, zyc8, zyc8, zyc303, zyc52]
noncomputable def zyh248 : zH := (126, [zyr9, zyr10, zyr11, zyr12, zyr13, zyr234, zyr6, zyr7], zym9)
noncomputable def zyc304 : zC := .inr (8, [zyv114, zyv15, zyv15, zyv15, zyv114, zyv114, zyv114, zyv114, zyv15, zyv114, zyv15, zyv15, zyv121, zyv17, zyv314, zyv343, zyv124, zyv114, zyv114, zyv114, zyv15, zyv36, zyv129, zyv114, zyv15, zyv114, zyv114, zyv15, zyv15, zyv114, zyv114, zyv114, zyv114, zyv114, zyv114, zyv114, zyv114, zyv114, zyv114, zyv15, zyv114, zyv114, zyv114, zyv114, zyv15, zyv15, zyv15, zyv15, zyv114, zyv114, zyv114])
noncomputable def zyr235 : List zC := [zyc60, zyc60, zyc60, zyc69, zyc10, zyc10, zyc10, zyc12, zyc70, zyc8, zyc8, zyc70, zyc8, zyc8, zyc304, zyc52]
noncomputable def zyh249 : zH := (126, [zyr9, zyr10, zyr11, zyr12, zyr13, zyr235, zyr6, zyr7], 0)
noncomputable def zyh250 : zH := (126, [zyr9, zyr10, zyr11, zyr12, zyr13, zyr235, zyr6, zyr7], zym9)
def zyv344 : zAV := .inl ((.ofNat 27, .ofNat 40), none)
noncomputable def zyc305 : zC := .inr (8, [zyv114, zyv15, zyv15, zyv15, zyv114, zyv114, zyv114, zyv114, zyv15, zyv114, zyv15, zyv15, zyv121, zyv17, zyv314, zyv344, zyv239, zyv114, zyv114, zyv114, zyv15, zyv36, zyv129, zyv114, zyv15, zyv114, zyv114, zyv15, zyv15, zyv114, zyv114, zyv114, zyv114, zyv114, zyv114, zyv114, zyv114, zyv114, zyv114, zyv15, zyv114, zyv114, zyv114, zyv114, zyv15, zyv15, zyv15, zyv15, zyv114, zyv114, zyv114])
noncomputable def zyr236 : List zC := [zyc60, zyc60, zyc60, zyc69, zyc10, zyc10, zyc10, zyc12, zyc70, zyc8, zyc8, zyc70, zyc8, zyc8, zyc305, zyc52]
noncomputable def zyh251 : zH := (126, [zyr9, zyr10, zyr11, zyr12, zyr13, zyr236, zyr6, zyr7], zym9)
noncomputable def zyc306 : zC := .inr (8, [zyv114, zyv15, zyv15, zyv15, zyv114, zyv114, zyv114, zyv114, zyv15, zyv114, zyv15, zyv15, zyv121, zyv17, zyv314, zyv344, zyv124, zyv114, zyv114, zyv114, zyv15, zyv36, zyv129, zyv114, zyv15, zyv114, zyv114, zyv15, zyv15, zyv114, zyv114, zyv114, zyv114, zyv114, zyv114, zyv114, zyv114, zyv114, zyv114, zyv15, zyv114, zyv114, zyv114, zyv114, zyv15, zyv15, zyv15, zyv15, zyv114, zyv114, zyv114])
noncomputable def zyr237 : List zC := [zyc60, zyc60, zyc60, zyc69, zyc10, zyc10, zyc10, zyc12, zyc70, zyc8, zyc8, zyc70, zyc8, zyc8, zyc306, zyc52]
noncomputable def zyh252 : zH := (126, [zyr9, zyr10, zyr11, zyr12, zyr13, zyr237, zyr6, zyr7], 0)
noncomputable def zyh253 : zH := (126, [zyr9, zyr10, zyr11, zyr12, zyr13, zyr237, zyr6, zyr7], zym9)
def zyv345 : zAV := .inl ((.ofNat 28, .ofNat 40), none)
noncomputable def zyc307 : zC := .inr (8, [zyv114, zyv15, zyv15, zyv15, zyv114, zyv114, zyv114, zyv114, zyv15, zyv114, zyv15, zyv15, zyv121, zyv17, zyv314, zyv345, zyv239, zyv114, zyv114, zyv114, zyv15, zyv36, zyv129, zyv114, zyv15, zyv114, zyv114, zyv15, zyv15, zyv114, zyv114, zyv114, zyv114, zyv114, zyv114, zyv114, zyv114, zyv114, zyv114, zyv15, zyv114, zyv114, zyv114, zyv114, zyv15, zyv15, zyv15, zyv15, zyv114, zyv114, zyv114])
noncomputable def zyr238 : List zC := [zyc60, zyc60, zyc60, zyc69, zyc10, zyc10, zyc10, zyc12, zyc70, zyc8, zyc8, zyc70, zyc8, zyc8, zyc307, zyc52]
noncomputable def zyh254 : zH := (126, [zyr9, zyr10, zyr11, zyr12, zyr13, zyr238, zyr6, zyr7], zym9)
noncomputable def zyc308 : zC := .inr (8, [zyv114, zyv15, zyv15, zyv15, zyv114, zyv114, zyv114, zyv114, zyv15, zyv114, zyv15, zyv15, zyv121, zyv17, zyv314, zyv345, zyv124, zyv114, zyv114, zyv114, zyv15, zyv36, zyv129, zyv114, zyv15, zyv114, zyv114, zyv15, zyv15, zyv114, zyv114, zyv114, zyv114, zyv114, zyv114, zyv114, zyv114, zyv114, zyv114, zyv15, zyv114, zyv114, zyv114, zyv114, zyv15, zyv15, zyv15, zyv15, zyv114, zyv114, zyv114])
noncomputable def zyr239 : List zC := [zyc60, zyc60, zyc60, zyc69, zyc10, zyc10, zyc10, zyc12, zyc70, zyc8, zyc8, zyc70, zyc8, zyc8, zyc308, zyc52]
noncomputable def zyh255 : zH := (126, [zyr9, zyr10, zyr11, zyr12, zyr13, zyr239, zyr6, zyr7], 0)
noncomputable def zyh256 : zH := (126, [zyr9, zyr10, zyr11, zyr12, zyr13, zyr239, zyr6, zyr7], zym9)
def zyv346 : zAV := .inl ((.ofNat 29, .ofNat 40), none)
noncomputable def zyc309 : zC := .inr (8, [zyv114, zyv15, zyv15, zyv15, zyv114, zyv114, zyv114, zyv114, zyv15, zyv114, zyv15, zyv15, zyv121, zyv17, zyv314, zyv346, zyv239, zyv114, zyv114, zyv114, zyv15, zyv36, zyv129, zyv114, zyv15, zyv114, zyv114, zyv15, zyv15, zyv114, zyv114, zyv114, zyv114, zyv114, zyv114, zyv114, zyv114, zyv114, zyv114, zyv15, zyv114, zyv114, zyv114, zyv114, zyv15, zyv15, zyv15, zyv15, zyv114, zyv114, zyv114])
noncomputable def zyr240 : List zC := [zyc60, zyc60, zyc60, zyc69, zyc10, zyc10, zyc10, zyc12, zyc70, zyc8, zyc8, zyc70, zyc8, zyc8, zyc309, zyc52]
noncomputable def zyh257 : zH := (126, [zyr9, zyr10, zyr11, zyr12, zyr13, zyr240, zyr6, zyr7], zym9)
noncomputable def zyc310 : zC := .inr (8, [zyv114, zyv15, zyv15, zyv15, zyv114, zyv114, zyv114, zyv114, zyv15, zyv114, zyv15, zyv15, zyv121, zyv17, zyv314, zyv346, zyv124, zyv114, zyv114, zyv114, zyv15, zyv36, zyv129, zyv114, zyv15, zyv114, zyv114, zyv15, zyv15, zyv114, zyv114, zyv114, zyv114, zyv114, zyv114, zyv114, zyv114, zyv114, zyv114, zyv15, zyv114, zyv114, zyv114, zyv114, zyv15, zyv15, zyv15, zyv15, zyv114, zyv114, zyv114])
noncomputable def zyr241 : List zC := [zyc60, zyc60, zyc60, zyc69, zyc10, zyc10, zyc10, zyc12, zyc70, zyc8, zyc8, zyc70, zyc8, zyc8, zyc310, zyc52]
noncomputable def zyh258 : zH := (126, [zyr9, zyr10, zyr11, zyr12, zyr13, zyr241, zyr6, zyr7], 0)
noncomputable def zyh259 : zH := (126, [zyr9, zyr10, zyr11, zyr12, zyr13, zyr241, zyr6, zyr7], zym9)
def zyv347 : zAV := .inl ((.ofNat 30, .ofNat 40), none)
noncomputable def zyc311 : zC := .inr (8, [zyv114, zyv15, zyv15, zyv15, zyv114, zyv114, zyv114, zyv114, zyv15, zyv114, zyv15, zyv15, zyv121, zyv17, zyv314, zyv347, zyv239, zyv114, zyv114, zyv114, zyv15, zyv36, zyv129, zyv114, zyv15, zyv114, zyv114, zyv15, zyv15, zyv114, zyv114, zyv114, zyv114, zyv114, zyv114, zyv114, zyv114, zyv114, zyv114, zyv15, zyv114, zyv114, zyv114, zyv114, zyv15, zyv15, zyv15, zyv15, zyv114, zyv114, zyv114])
noncomputable def zyr242 : List zC := [zyc60, zyc60, zyc60, zyc69, zyc10, zyc10, zyc10, zyc12, zyc70, zyc8, zyc8, zyc70, zyc8, zyc8, zyc311, zyc52]
noncomputable def zyh260 : zH := (126, [zyr9, zyr10, zyr11, zyr12, zyr13, zyr242, zyr6, zyr7], zym9)
noncomputable def zyc312 : zC := .inr (8, [zyv114, zyv15, zyv15, zyv15, zyv114, zyv114, zyv114, zyv114, zyv15, zyv114, zyv15, zyv15, zyv121, zyv17, zyv314, zyv347, zyv124, zyv114, zyv114, zyv114, zyv15, zyv36, zyv129, zyv114, zyv15, zyv114, zyv114, zyv15, zyv15, zyv114, zyv114, zyv114, zyv114, zyv114, zyv114, zyv114, zyv114, zyv114, zyv114, zyv15, zyv114, zyv114, zyv114, zyv114, zyv15, zyv15, zyv15, zyv15, zyv114, zyv114, zyv114])
noncomputable def zyr243 : List zC := [zyc60, zyc60, zyc60, zyc69, zyc10, zyc10, zyc10, zyc12, zyc70, zyc8, zyc8, zyc70, zyc8, zyc8, zyc312, zyc52]
noncomputable def zyh261 : zH := (126, [zyr9, zyr10, zyr11, zyr12, zyr13, zyr243, zyr6, zyr7], 0)
noncomputable def zyh262 : zH := (126, [zyr9, zyr10, zyr11, zyr12, zyr13, zyr243, zyr6, zyr7], zym9)
def zyv348 : zAV := .inl ((.ofNat 31, .ofNat 40), none)
noncomputable def zyc313 : zC := .inr (8, [zyv114, zyv15, zyv15, zyv15, zyv114, zyv114, zyv114, zyv114, zyv15, zyv114, zyv15, zyv15, zyv121, zyv17, zyv314, zyv348, zyv239, zyv114, zyv114, zyv114, zyv15, zyv36, zyv129, zyv114, zyv15, zyv114, zyv114, zyv15, zyv15, zyv114, zyv114, zyv114, zyv114, zyv114, zyv114, zyv114, zyv114, zyv114, zyv114, zyv15, zyv114, zyv114, zyv114, zyv114, zyv15, zyv15, zyv15, zyv15, zyv114, zyv114, zyv114])
noncomputable def zyr244 : List zC := [zyc60, zyc60, zyc60, zyc69, zyc10, zyc10, zyc10, zyc12, zyc70, zyc8, zyc8, zyc70, zyc8, zyc8, zyc313, zyc52]
noncomputable def zyh263 : zH := (126, [zyr9, zyr10, zyr11, zyr12, zyr13, zyr244, zyr6, zyr7], zym9)
noncomputable def zyc314 : zC := .inr (8, [zyv114, zyv15, zyv15, zyv15, zyv114, zyv114, zyv114, zyv114, zyv15, zyv114, zyv15, zyv15, zyv121, zyv17, zyv314, zyv348, zyv124, zyv114, zyv114, zyv114, zyv15, zyv36, zyv129, zyv114, zyv15, zyv114, zyv114, zyv15, zyv15, zyv114, zyv114, zyv114, zyv114, zyv114, zyv114, zyv114, zyv114, zyv114, zyv114, zyv15, zyv114, zyv114, zyv114, zyv114, zyv15, zyv15, zyv15, zyv15, zyv114, zyv114, zyv114])
noncomputable def zyr245 : List zC := [zyc60, zyc60, zyc60, zyc69, zyc10, zyc10, zyc10, zyc12, zyc70, zyc8, zyc8, zyc70, zyc8, zyc8, zyc314, zyc52]
noncomputable def zyh264 : zH := (126, [zyr9, zyr10, zyr11, zyr12, zyr13, zyr245, zyr6, zyr7], 0)
noncomputable def zyh265 : zH := (126, [zyr9, zyr10, zyr11, zyr12, zyr13, zyr245, zyr6, zyr7], zym9)
def zyv349 : zAV := .inl ((.ofNat 32, .ofNat 40), none)
noncomputable def zyc315 : zC := .inr (8, [zyv114, zyv15, zyv15, zyv15, zyv114, zyv114, zyv114, zyv114, zyv15, zyv114, zyv15, zyv15, zyv121, zyv17, zyv314, zyv349, zyv239, zyv114, zyv114, zyv114, zyv15, zyv36, zyv129, zyv114, zyv15, zyv114, zyv114, zyv15, zyv15, zyv114, zyv114, zyv114, zyv114, zyv114, zyv114, zyv114, zyv114, zyv114, zyv114, zyv15, zyv114, zyv114, zyv114, zyv114, zyv15, zyv15, zyv15, zyv15, zyv114, zyv114, zyv114])
noncomputable def zyr246 : List zC := [zyc60, zyc60, zyc60, zyc69, zyc10, zyc10, zyc10, zyc12, zyc70, zyc8, zyc8, zyc70, zyc8, zyc8, zyc315, zyc52]
noncomputable def zyh266 : zH := (126, [zyr9, zyr10, zyr11, zyr12, zyr13, zyr246, zyr6, zyr7], zym9)
noncomputable def zyc316 : zC := .inr (8, [zyv114, zyv15, zyv15, zyv15, zyv114, zyv114, zyv114, zyv114, zyv15, zyv114, zyv15, zyv15, zyv121, zyv17, zyv314, zyv349, zyv124, zyv114, zyv114, zyv114, zyv15, zyv36, zyv129, zyv114, zyv15, zyv114, zyv114, zyv15, zyv15, zyv114, zyv114, zyv114, zyv114, zyv114, zyv114, zyv114, zyv114, zyv114, zyv114, zyv15, zyv114, zyv114, zyv114, zyv114, zyv15, zyv15, zyv15, zyv15, zyv114, zyv114, zyv114])
noncomputable def zyr247 : List zC := [zyc60, zyc60, zyc60, zyc69, zyc10, zyc10, zyc10, zyc12, zyc70, zyc8, zyc8, zyc70, zyc8, zyc8, zyc316, zyc52]
noncomputable def zyh267 : zH := (126, [zyr9, zyr10, zyr11, zyr12, zyr13, zyr247, zyr6, zyr7], 0)
noncomputable def zyh268 : zH := (126, [zyr9, zyr10, zyr11, zyr12, zyr13, zyr247, zyr6, zyr7], zym9)
def zyv350 : zAV := .inl ((.ofNat 33, .ofNat 40), none)
noncomputable def zyc317 : zC := .inr (8, [zyv114, zyv15, zyv15, zyv15, zyv114, zyv114, zyv114, zyv114, zyv15, zyv114, zyv15, zyv15, zyv121, zyv17, zyv314, zyv350, zyv239, zyv114, zyv114, zyv114, zyv15, zyv36, zyv129, zyv114, zyv15, zyv114, zyv114, zyv15, zyv15, zyv114, zyv114, zyv114, zyv114, zyv114, zyv114, zyv114, zyv114, zyv114, zyv114, zyv15, zyv114, zyv114, zyv114, zyv114, zyv15, zyv15, zyv15, zyv15, zyv114, zyv114, zyv114])
noncomputable def zyr248 : List zC := [zyc60, zyc60, zyc60, zyc69, zyc10, zyc10, zyc10, zyc12, zyc70, zyc8, zyc8, zyc70, zyc8, zyc8, zyc317, zyc52]
noncomputable def zyh269 : zH := (126, [zyr9, zyr10, zyr11, zyr12, zyr13, zyr248, zyr6, zyr7], zym9)
noncomputable def zyc318 : zC := .inr (8, [zyv114, zyv15, zyv15, zyv15, zyv114, zyv114, zyv114, zyv114, zyv15, zyv114, zyv15, zyv15, zyv121, zyv17, zyv314, zyv350, zyv124, zyv114, zyv114, zyv114, zyv15, zyv36, zyv129, zyv114, zyv15, zyv114, zyv114, zyv15, zyv15, zyv114, zyv114, zyv114, zyv114, zyv114, zyv114, zyv114, zyv114, zyv114, zyv114, zyv15, zyv114, zyv114, zyv114, zyv114, zyv15, zyv15, zyv15, zyv15, zyv114, zyv114, zyv114])
noncomputable def zyr249 : List zC := [zyc60, zyc60, zyc60, zyc69, zyc10, zyc10, zyc10, zyc12, zyc70, zyc8, zyc8, zyc70, zyc8, zyc8, zyc318, zyc52]
noncomputable def zyh270 : zH := (126, [zyr9, zyr10, zyr11, zyr12, zyr13, zyr249, zyr6, zyr7], 0)
noncomputable def zyh271 : zH := (126, [zyr9, zyr10, zyr11, zyr12, zyr13, zyr249, zyr6, zyr7], zym9)
def zyv351 : zAV := .inl ((.ofNat 34, .ofNat 40), none)
noncomputable def zyc319 : zC := .inr (8, [zyv114, zyv15, zyv15, zyv15, zyv114, zyv114, zyv114, zyv114, zyv15, zyv114, zyv15, zyv15, zyv121, zyv17, zyv314, zyv351, zyv239, zyv114, zyv114, zyv114, zyv15, zyv36, zyv129, zyv114, zyv15, zyv114, zyv114, zyv15, zyv15, zyv114, zyv114, zyv114, zyv114, zyv114, zyv114, zyv114, zyv114, zyv114, zyv114, zyv15, zyv114, zyv114, zyv114, zyv114, zyv15, zyv15, zyv15, zyv15, zyv114, zyv114, zyv114])
noncomputable def zyr250 : List zC := [zyc60, zyc60, zyc60, zyc69, zyc10, zyc10, zyc10, zyc12, zyc70, zyc8, zyc8, zyc70, zyc8, zyc8, zyc319, zyc52]
noncomputable def zyh272 : zH := (126, [zyr9, zyr10, zyr11, zyr12, zyr13, zyr250, zyr6, zyr7], zym9)
noncomputable def zyc320 : zC := .inr (8, [zyv114, zyv15, zyv15, zyv15, zyv114, zyv114, zyv114, zyv114, zyv15, zyv114, zyv15, zyv15, zyv121, zyv17, zyv314, zyv351, zyv124, zyv114, zyv114, zyv114, zyv15, zyv36, zyv129, zyv114, zyv15, zyv114, zyv114, zyv15, zyv15, zyv114, zyv114, zyv114, zyv114, zyv114, zyv114, zyv114, zyv114, zyv114, zyv114, zyv15, zyv114, zyv114, zyv114, zyv114, zyv15, zyv15, zyv15, zyv15, zyv114, zyv114, zyv114])
noncomputable def zyr251 : List zC := [zyc60, zyc60, zyc60, zyc69, zyc10, zyc10, zyc10, zyc12, zyc70, zyc8, zyc8, zyc70, zyc8, zyc8, zyc320, zyc52]
noncomputable def zyh273 : zH := (126, [zyr9, zyr10, zyr11, zyr12, zyr13, zyr251, zyr6, zyr7], 0)
noncomputable def zyh274 : zH := (126, [zyr9, zyr10, zyr11, zyr12, zyr13, zyr251, zyr6, zyr7], zym9)
def zyv352 : zAV := .inl ((.ofNat 35, .ofNat 40), none)
noncomputable def zyc321 : zC := .inr (8, [zyv114, zyv15, zyv15, zyv15, zyv114, zyv114, zyv114, zyv114, zyv15, zyv114, zyv15, zyv15, zyv121, zyv17, zyv314, zyv352, zyv239, zyv114, zyv114, zyv114, zyv15, zyv36, zyv129, zyv114, zyv15, zyv114, zyv114, zyv15, zyv15, zyv114, zyv114, zyv114, zyv114, zyv114, zyv114, zyv114, zyv114, zyv114, zyv114, zyv15, zyv114, zyv114, zyv114, zyv114, zyv15, zyv15, zyv15, zyv15, zyv114, zyv114, zyv114])
noncomputable def zyr252 : List zC := [zyc60, zyc60, zyc60, zyc69, zyc10, zyc10, zyc10, zyc12, zyc70, zyc8, zyc8, zyc70, zyc8, zyc8, zyc321, zyc52]
noncomputable def zyh275 : zH := (126, [zyr9, zyr10, zyr11, zyr12, zyr13, zyr252, zyr6, zyr7], zym9)
noncomputable def zyc322 : zC := .inr (8, [zyv114, zyv15, zyv15, zyv15, zyv114, zyv114, zyv114, zyv114, zyv15, zyv114, zyv15, zyv15, zyv121, zyv17, zyv314, zyv352, zyv124, zyv114, zyv114, zyv114, zyv15, zyv36, zyv129, zyv114, zyv15, zyv114, zyv114, zyv15, zyv15, zyv114, zyv114, zyv114, zyv114, zyv114, zyv114, zyv114, zyv114, zyv114, zyv114, zyv15, zyv114, zyv114, zyv114, zyv114, zyv15, zyv15, zyv15, zyv15, zyv114, zyv114, zyv114])
noncomputable def zyr253 : List zC := [zyc60, zyc60, zyc60, zyc69, zyc10, zyc10, zyc10, zyc12, zyc70, zyc8, zyc8, zyc70, zyc8, zyc8, zyc322, zyc52]
noncomputable def zyh276 : zH := (126, [zyr9, zyr10, zyr11, zyr12, zyr13, zyr253, zyr6, zyr7], 0)
noncomputable def zyh277 : zH := (126, [zyr9, zyr10, zyr11, zyr12, zyr13, zyr253, zyr6, zyr7], zym9)
def zyv353 : zAV := .inl ((.ofNat 36, .ofNat 40), none)
noncomputable def zyc323 : zC := .inr (8, [zyv114, zyv15, zyv15, zyv15, zyv114, zyv114, zyv114, zyv114, zyv15, zyv114, zyv15, zyv15, zyv121, zyv17, zyv314, zyv353, zyv239, zyv114, zyv114, zyv114, zyv15, zyv36, zyv129, zyv114, zyv15, zyv114, zyv114, zyv15, zyv15, zyv114, zyv114, zyv114, zyv114, zyv114, zyv114, zyv114, zyv114, zyv114, zyv114, zyv15, zyv114, zyv114, zyv114, zyv114, zyv15, zyv15, zyv15, zyv15, zyv114, zyv114, zyv114])
noncomputable def zyr254 : List zC := [zyc60, zyc60, zyc60, zyc69, zyc10, zyc10, zyc10, zyc12, zyc70, zyc8, zyc8, zyc70, zyc8, zyc8, zyc323, zyc52]
noncomputable def zyh278 : zH := (126, [zyr9, zyr10, zyr11, zyr12, zyr13, zyr254, zyr6, zyr7], zym9)
noncomputable def zyc324 : zC := .inr (8, [zyv114, zyv15, zyv15, zyv15, zyv114, zyv114, zyv114, zyv114, zyv15, zyv114, zyv15, zyv15, zyv121, zyv17, zyv314, zyv353, zyv124, zyv114, zyv114, zyv114, zyv15, zyv36, zyv129, zyv114, zyv15, zyv114, zyv114, zyv15, zyv15, zyv114, zyv114, zyv114, zyv114, zyv114, zyv114, zyv114, zyv114, zyv114, zyv114, zyv15, zyv114, zyv114, zyv114, zyv114, zyv15, zyv15, zyv15, zyv15, zyv114, zyv114, zyv114])
noncomputable def zyr255 : List zC := [zyc60, zyc60, zyc60, zyc69, zyc10, zyc10, zyc10, zyc12, zyc70, zyc8, zyc8, zyc70, zyc8, zyc8, zyc324, zyc52]
noncomputable def zyh279 : zH := (126, [zyr9, zyr10, zyr11, zyr12, zyr13, zyr255, zyr6, zyr7], 0)
noncomputable def zyh280 : zH := (126, [zyr9, zyr10, zyr11, zyr12, zyr13, zyr255, zyr6, zyr7], zym9)
def zyv354 : zAV := .inl ((.ofNat 37, .ofNat 40), none)
noncomputable def zyc325 : zC := .inr (8, [zyv114, zyv15, zyv15, zyv15, zyv114, zyv114, zyv114, zyv114, zyv15, zyv114, zyv15, zyv15, zyv121, zyv17, zyv314, zyv354, zyv239, zyv114, zyv114, zyv114, zyv15, zyv36, zyv129, zyv114, zyv15, zyv114, zyv114, zyv15, zyv15, zyv114, zyv114, zyv114, zyv114, zyv114, zyv114, zyv114, zyv114, zyv114, zyv114, zyv15, zyv114, zyv114, zyv114, zyv114, zyv15, zyv15, zyv15, zyv15, zyv114, zyv114, zyv114])
noncomputable def zyr256 : List zC := [zyc60, zyc60, zyc60, zyc69, zyc10, zyc10, zyc10, zyc12, zyc70, zyc8, zyc8, zyc70, zyc8, zyc8, zyc325, zyc52]
noncomputable def zyh281 : zH := (126, [zyr9, zyr10, zyr11, zyr12, zyr13, zyr256, zyr6, zyr7], zym9)
noncomputable def zyc326 : zC := .inr (8, [zyv114, zyv15, zyv15, zyv15, zyv114, zyv114, zyv114, zyv114, zyv15, zyv114, zyv15, zyv15, zyv121, zyv17, zyv314, zyv354, zyv124, zyv114, zyv114, zyv114, zyv15, zyv36, zyv129, zyv114, zyv15, zyv114, zyv114, zyv15, zyv15, zyv114, zyv114, zyv114, zyv114, zyv114, zyv114, zyv114, zyv114, zyv114, zyv114, zyv15, zyv114, zyv114, zyv114, zyv114, zyv15, zyv15, zyv15, zyv15, zyv114, zyv114, zyv114])
noncomputable def zyr257 : List zC := [zyc60, zyc60, zyc60, zyc69, zyc10, zyc10, zyc10, zyc12, zyc70, zyc8, zyc8, zyc70, zyc8, zyc8, zyc326, zyc52]
noncomputable def zyh282 : zH := (126, [zyr9, zyr10, zyr11, zyr12, zyr13, zyr257, zyr6, zyr7], 0)
noncomputable def zyh283 : zH := (126, [zyr9, zyr10, zyr11, zyr12, zyr13, zyr257, zyr6, zyr7], zym9)
def zyv355 : zAV := .inl ((.ofNat 38, .ofNat 40), none)
noncomputable def zyc327 : zC := .inr (8, [zyv114, zyv15, zyv15, zyv15, zyv114, zyv114, zyv114, zyv114, zyv15, zyv114, zyv15, zyv15, zyv121, zyv17, zyv314, zyv355, zyv239, zyv114, zyv114, zyv114, zyv15, zyv36, zyv129, zyv114, zyv15, zyv114, zyv114, zyv15, zyv15, zyv114, zyv114, zyv114, zyv114, zyv114, zyv114, zyv114, zyv114, zyv114, zyv114, zyv15, zyv114, zyv114, zyv114, zyv114, zyv15, zyv15, zyv15, zyv15, zyv114, zyv114, zyv114])
noncomputable def zyr258 : List zC := [zyc60, zyc60, zyc60, zyc69, zyc10, zyc10, zyc10, zyc12, zyc70, zyc8, zyc8, zyc70, zyc8, zyc8, zyc327, zyc52]
noncomputable def zyh284 : zH := (126, [zyr9, zyr10, zyr11, zyr12, zyr13, zyr258, zyr6, zyr7], zym9)
noncomputable def zyc328 : zC := .inr (8, [zyv114, zyv15, zyv15, zyv15, zyv114, zyv114, zyv114, zyv114, zyv15, zyv114, zyv15, zyv15, zyv121, zyv17, zyv314, zyv355, zyv124, zyv114, zyv114, zyv114, zyv15, zyv36, zyv129, zyv114, zyv15, zyv114, zyv114, zyv15, zyv15, zyv114, zyv114, zyv114, zyv114, zyv114, zyv114, zyv114, zyv114, zyv114, zyv114, zyv15, zyv114, zyv114, zyv114, zyv114, zyv15, zyv15, zyv15, zyv15, zyv114, zyv114, zyv114])
noncomputable def zyr259 : List zC := [zyc60, zyc60, zyc60, zyc69, zyc10, zyc10, zyc10, zyc12, zyc70, zyc8, zyc8, zyc70, zyc8, zyc8, zyc328, zyc52]
noncomputable def zyh285 : zH := (126, [zyr9, zyr10, zyr11, zyr12, zyr13, zyr259, zyr6, zyr7], 0)
noncomputable def zyh286 : zH := (126, [zyr9, zyr10, zyr11, zyr12, zyr13, zyr259, zyr6, zyr7], zym9)
def zyv356 : zAV := .inl ((.ofNat 39, .ofNat 40), none)
noncomputable def zyc329 : zC := .inr (8, [zyv114, zyv15, zyv15, zyv15, zyv114, zyv114, zyv114, zyv114, zyv15, zyv114, zyv15, zyv15, zyv121, zyv17, zyv314, zyv356, zyv239, zyv114, zyv114, zyv114, zyv15, zyv36, zyv129, zyv114, zyv15, zyv114, zyv114, zyv15, zyv15, zyv114, zyv114, zyv114, zyv114, zyv114, zyv114, zyv114, zyv114, zyv114, zyv114, zyv15, zyv114, zyv114, zyv114, zyv114, zyv15, zyv15, zyv15, zyv15, zyv114, zyv114, zyv114])
noncomputable def zyr260 : List zC := [zyc60, zyc60, zyc60, zyc69, zyc10, zyc10, zyc10, zyc12, zyc70, zyc8, zyc8, zyc70, zyc8, zyc8, zyc329, zyc52]
noncomputable def zyh287 : zH := (126, [zyr9, zyr10, zyr11, zyr12, zyr13, zyr260, zyr6, zyr7], zym9)
noncomputable def zyc330 : zC := .inr (8, [zyv114, zyv15, zyv15, zyv15, zyv114, zyv114, zyv114, zyv114, zyv15, zyv114, zyv15, zyv15, zyv121, zyv17, zyv314, zyv356, zyv124, zyv114, zyv114, zyv114, zyv15, zyv36, zyv129, zyv114, zyv15, zyv114, zyv114, zyv15, zyv15, zyv114, zyv114, zyv114, zyv114, zyv114, zyv114, zyv114, zyv114, zyv114, zyv114, zyv15, zyv114, zyv114, zyv114, zyv114, zyv15, zyv15, zyv15, zyv15, zyv114, zyv114, zyv114])
noncomputable def zyr261 : List zC := [zyc60, zyc60, zyc60, zyc69, zyc10, zyc10, zyc10, zyc12, zyc70, zyc8, zyc8, zyc70, zyc8, zyc8, zyc330, zyc52]
noncomputable def zyh288 : zH := (126, [zyr9, zyr10, zyr11, zyr12, zyr13, zyr261, zyr6, zyr7], 0)
noncomputable def zyh289 : zH := (126, [zyr9, zyr10, zyr11, zyr12, zyr13, zyr261, zyr6, zyr7], zym9)
noncomputable def zyc331 : zC := .inr (8, [zyv114, zyv15, zyv15, zyv15, zyv114, zyv114, zyv114, zyv114, zyv15, zyv114, zyv15, zyv15, zyv121, zyv17, zyv314, zyv314, zyv239, zyv114, zyv114, zyv114, zyv15, zyv36, zyv129, zyv114, zyv15, zyv114, zyv114, zyv15, zyv15, zyv114, zyv114, zyv114, zyv114, zyv114, zyv114, zyv114, zyv114, zyv114, zyv114, zyv15, zyv114, zyv114, zyv114, zyv114, zyv15, zyv15, zyv15, zyv15, zyv114, zyv114, zyv114])
noncomputable def zyr262 : List zC := [zyc60, zyc60, zyc60, zyc69, zyc10, zyc10, zyc10, zyc12, zyc70, zyc8, zyc8, zyc70, zyc8, zyc8, zyc331, zyc52]
noncomputable def zyh290 : zH := (126, [zyr9, zyr10, zyr11, zyr12, zyr13, zyr262, zyr6, zyr7], zym9)
noncomputable def zyc332 : zC := .inr (8, [zyv114, zyv15, zyv15, zyv15, zyv114, zyv114, zyv114, zyv114, zyv15, zyv114, zyv15, zyv15, zyv121, zyv17, zyv314, zyv314, zyv124, zyv114, zyv114, zyv114, zyv15, zyv36, zyv129, zyv114, zyv15, zyv114, zyv114, zyv15, zyv15, zyv114, zyv114, zyv114, zyv114, zyv114, zyv114, zyv114, zyv114, zyv114, zyv114, zyv15, zyv114, zyv114, zyv114, zyv114, zyv15, zyv15, zyv15, zyv15, zyv114, zyv114, zyv114])
noncomputable def zyr263 : List zC := [zyc60, zyc60, zyc60, zyc69, zyc10, zyc10, zyc10, zyc12, zyc70, zyc8, zyc8, zyc70, zyc8, zyc8, zyc332, zyc52]
noncomputable def zyh291 : zH := (126, [zyr9, zyr10, zyr11, zyr12, zyr13, zyr263, zyr6, zyr7], 0)
noncomputable def zyh292 : zH := (126, [zyr9, zyr10, zyr11, zyr12, zyr13, zyr263, zyr6, zyr7], zym9)
def zyv357 : zAV := .inl ((.ofNat 48, .ofNat 48), none)
def zyv358 : zAV := .inl ((.ofNat 10, .ofNat 10), none)
noncomputable def zyc333 : zC := .inr (8, [zyv114, zyv15, zyv15, zyv15, zyv114, zyv114, zyv114, zyv114, zyv15, zyv114, zyv15, zyv15, zyv121, zyv17, zyv314, zyv356, zyv17, zyv114, zyv114, zyv114, zyv15, zyv36, zyv129, zyv114, zyv15, zyv114, zyv114, zyv15, zyv15, zyv114, zyv114, zyv114, zyv114, zyv114, zyv114, zyv114, zyv114, zyv114, zyv114, zyv15, zyv114, zyv114, zyv114, zyv114, zyv15, zyv15, zyv15, zyv15, zyv114, zyv114, zyv114])
noncomputable def zyr264 : List zC := [zyc60, zyc60, zyc60, zyc69, zyc10, zyc10, zyc10, zyc12, zyc70, zyc8, zyc8, zyc70, zyc8, zyc8, zyc333, zyc52]
noncomputable def zyh293 : zH := (126, [zyr9, zyr10, zyr11, zyr12, zyr13, zyr264, zyr6, zyr7], zym9)
noncomputable def zyc334 : zC := .inr (8, [zyv114, zyv15, zyv15, zyv15, zyv114, zyv114, zyv114, zyv114, zyv15, zyv114, zyv15, zyv15, zyv121, zyv17, zyv314, zyv355, zyv17, zyv114, zyv114, zyv114, zyv15, zyv36, zyv129, zyv114, zyv15, zyv114, zyv114, zyv15, zyv15, zyv114, zyv114, zyv114, zyv114, zyv114, zyv114, zyv114, zyv114, zyv114, zyv114, zyv15, zyv114, zyv114, zyv114, zyv114, zyv15, zyv15, zyv15, zyv15, zyv114, zyv114, zyv114])
noncomputable def zyr265 : List zC := [zyc60, zyc60, zyc60, zyc69, zyc10, zyc10, zyc10, zyc12, zyc70, zyc8, zyc8, zyc70, zyc8, zyc8, zyc334, zyc52]
noncomputable def zyh294 : zH := (126, [zyr9, zyr10, zyr11, zyr12, zyr13, zyr265, zyr6, zyr7], zym9)
noncomputable def zyc335 : zC := .inr (8, [zyv114, zyv15, zyv15, zyv15, zyv114, zyv114, zyv114, zyv114, zyv15, zyv114, zyv15, zyv15, zyv121, zyv17, zyv314, zyv354, zyv17, zyv114, zyv114, zyv114, zyv15, zyv36, zyv129, zyv114, zyv15, zyv114, zyv114, zyv15, zyv15, zyv114, zyv114, zyv114, zyv114, zyv114, zyv114, zyv114, zyv114, zyv114, zyv114, zyv15, zyv114, zyv114, zyv114, zyv114, zyv15, zyv15, zyv15, zyv15, zyv114, zyv114, zyv114])
noncomputable def zyr266 : List zC := [zyc60, zyc60, zyc60, zyc69, zyc10, zyc10, zyc10, zyc12, zyc70, zyc8, zyc8, zyc70, zyc8, zyc8, zyc335, zyc52]
noncomputable def zyh295 : zH := (126, [zyr9, zyr10, zyr11, zyr12, zyr13, zyr266, zyr6, zyr7], zym9)
/-! X8_passes -/
noncomputable def zyx9a : List zAV := [zyv315, zyv316]
noncomputable def zyx9q : List (Option zAV × zH) := [(some (.inl ((.ofNat 0, .ofNat 0), none)), zyh175), (some (.inl ((.ofNat 1, .ofNat 1), none)), zyh176)]
noncomputable def zyx9d : zKw := (263, 2, 3, 420, zyx9a, zyh174, zyx9q)
noncomputable def zbzyx9e : Bool := zrunw zprog2 (zovW []) 100000 zcut0 3 420 kX8_passes (zkinL zyx9q) 0 (zargs 0 zyx9a, [], (zyh174.1, zyh174.2.1, 0), 0, 0)
/-! X8_passes -/
noncomputable def zyx10a : List zAV := [zyv315, zyv318]
noncomputable def zyx10q : List (Option zAV × zH) := [(some (.inl ((.ofNat 0, .ofNat 0), none)), zyh178), (some (.inl ((.ofNat 1, .ofNat 1), none)), zyh179)]
noncomputable def zyx10d : zKw := (263, 2, 3, 420, zyx10a, zyh177, zyx10q)
noncomputable def zbzyx10e : Bool := zrunw zprog2 (zovW []) 100000 zcut0 3 420 kX8_passes (zkinL zyx10q) 0 (zargs 0 zyx10a, [], (zyh177.1, zyh177.2.1, 0), 0, 0)
/-! X8_passes -/
noncomputable def zyx11a : List zAV := [zyv315, zyv318]
noncomputable def zyx11q : List (Option zAV × zH) := [(some (.inl ((.ofNat 0, .ofNat 0), none)), zyh181), (some (.inl ((.ofNat 1, .ofNat 1), none)), zyh182)]
noncomputable def zyx11d : zKw := (263, 2, 3, 420, zyx11a, zyh180, zyx11q)
noncomputable def zbzyx11e : Bool := zrunw zprog2 (zovW []) 100000 zcut0 3 420 kX8_passes (zkinL zyx11q) 0 (zargs 0 zyx11a, [], (zyh180.1, zyh180.2.1, 0), 0, 0)
/-! X8_passes -/
noncomputable def zyx12a : List zAV := [zyv315, zyv318]
noncomputable def zyx12q : List (Option zAV × zH) := [(some (.inl ((.ofNat 0, .ofNat 0), none)), zyh184), (some (.inl ((.ofNat 1, .ofNat 1), none)), zyh185)]
noncomputable def zyx12d : zKw := (263, 2, 3, 420, zyx12a, zyh183, zyx12q)
noncomputable def zbzyx12e : Bool := zrunw zprog2 (zovW []) 100000 zcut0 3 420 kX8_passes (zkinL zyx12q) 0 (zargs 0 zyx12a, [], (zyh183.1, zyh183.2.1, 0), 0, 0)
/-! X8_passes -/
noncomputable def zyx13a : List zAV := [zyv315, zyv318]
noncomputable def zyx13q : List (Option zAV × zH) := [(some (.inl ((.ofNat 0, .ofNat 0), none)), zyh187), (some (.inl ((.ofNat 1, .ofNat 1), none)), zyh188)]
noncomputable def zyx13d : zKw := (263, 2, 3, 420, zyx13a, zyh186, zyx13q)
noncomputable def zbzyx13e : Bool := zrunw zprog2 (zovW []) 100000 zcut0 3 420 kX8_passes (zkinL zyx13q) 0 (zargs 0 zyx13a, [], (zyh186.1, zyh186.2.1, 0), 0, 0)
/-! X8_passes -/
noncomputable def zyx14a : List zAV := [zyv315, zyv318]
noncomputable def zyx14q : List (Option zAV × zH) := [(some (.inl ((.ofNat 0, .ofNat 0), none)), zyh190), (some (.inl ((.ofNat 1, .ofNat 1), none)), zyh191)]
noncomputable def zyx14d : zKw := (263, 2, 3, 420, zyx14a, zyh189, zyx14q)
noncomputable def zbzyx14e : Bool := zrunw zprog2 (zovW []) 100000 zcut0 3 420 kX8_passes (zkinL zyx14q) 0 (zargs 0 zyx14a, [], (zyh189.1, zyh189.2.1, 0), 0, 0)
/-! X8_passes -/
noncomputable def zyx15a : List zAV := [zyv315, zyv318]
noncomputable def zyx15q : List (Option zAV × zH) := [(some (.inl ((.ofNat 0, .ofNat 0), none)), zyh193), (some (.inl ((.ofNat 1, .ofNat 1), none)), zyh194)]
noncomputable def zyx15d : zKw := (263, 2, 3, 420, zyx15a, zyh192, zyx15q)
noncomputable def zbzyx15e : Bool := zrunw zprog2 (zovW []) 100000 zcut0 3 420 kX8_passes (zkinL zyx15q) 0 (zargs 0 zyx15a, [], (zyh192.1, zyh192.2.1, 0), 0, 0)
/-! X8_passes -/
noncomputable def zyx16a : List zAV := [zyv315, zyv318]
noncomputable def zyx16q : List (Option zAV × zH) := [(some (.inl ((.ofNat 0, .ofNat 0), none)), zyh196), (some (.inl ((.ofNat 1, .ofNat 1), none)), zyh197)]
noncomputable def zyx16d : zKw := (263, 2, 3, 420, zyx16a, zyh195, zyx16q)
noncomputable def zbzyx16e : Bool := zrunw zprog2 (zovW []) 100000 zcut0 3 420 kX8_passes (zkinL zyx16q) 0 (zargs 0 zyx16a, [], (zyh195.1, zyh195.2.1, 0), 0, 0)
/-! X8_passes -/
noncomputable def zyx17a : List zAV := [zyv315, zyv318]
noncomputable def zyx17q : List (Option zAV × zH) := [(some (.inl ((.ofNat 0, .ofNat 0), none)), zyh199), (some (.inl ((.ofNat 1, .ofNat 1), none)), zyh200)]
noncomputable def zyx17d : zKw := (263, 2, 3, 420, zyx17a, zyh198, zyx17q)
noncomputable def zbzyx17e : Bool := zrunw zprog2 (zovW []) 100000 zcut0 3 420 kX8_passes (zkinL zyx17q) 0 (zargs 0 zyx17a, [], (zyh198.1, zyh198.2.1, 0), 0, 0)
/-! X8_passes -/
noncomputable def zyx18a : List zAV := [zyv315, zyv318]
noncomputable def zyx18q : List (Option zAV × zH) := [(some (.inl ((.ofNat 0, .ofNat 0), none)), zyh202), (some (.inl ((.ofNat 1, .ofNat 1), none)), zyh203)]
noncomputable def zyx18d : zKw := (263, 2, 3, 420, zyx18a, zyh201, zyx18q)
noncomputable def zbzyx18e : Bool := zrunw zprog2 (zovW []) 100000 zcut0 3 420 kX8_passes (zkinL zyx18q) 0 (zargs 0 zyx18a, [], (zyh201.1, zyh201.2.1, 0), 0, 0)
/-! X8_passes -/
noncomputable def zyx19a : List zAV := [zyv315, zyv318]
noncomputable def zyx19q : List (Option zAV × zH) := [(some (.inl ((.ofNat 0, .ofNat 0), none)), zyh205), (some (.inl ((.ofNat 1, .ofNat 1), none)), zyh206)]
noncomputable def zyx19d : zKw := (263, 2, 3, 420, zyx19a, zyh204, zyx19q)
noncomputable def zbzyx19e : Bool := zrunw zprog2 (zovW []) 100000 zcut0 3 420 kX8_passes (zkinL zyx19q) 0 (zargs 0 zyx19a, [], (zyh204.1, zyh204.2.1, 0), 0, 0)
/-! X8_passes -/
noncomputable def zyx20a : List zAV := [zyv315, zyv318]
noncomputable def zyx20q : List (Option zAV × zH) := [(some (.inl ((.ofNat 0, .ofNat 0), none)), zyh208), (some (.inl ((.ofNat 1, .ofNat 1), none)), zyh209)]
noncomputable def zyx20d : zKw := (263, 2, 3, 420, zyx20a, zyh207, zyx20q)
noncomputable def zbzyx20e : Bool := zrunw zprog2 (zovW []) 100000 zcut0 3 420 kX8_passes (zkinL zyx20q) 0 (zargs 0 zyx20a, [], (zyh207.1, zyh207.2.1, 0), 0, 0)
/-! X8_passes -/
noncomputable def zyx21a : List zAV := [zyv315, zyv318]
noncomputable def zyx21q : List (Option zAV × zH) := [(some (.inl ((.ofNat 0, .ofNat 0), none)), zyh211), (some (.inl ((.ofNat 1, .ofNat 1), none)), zyh212)]
noncomputable def zyx21d : zKw := (263, 2, 3, 420, zyx21a, zyh210, zyx21q)
noncomputable def zbzyx21e : Bool := zrunw zprog2 (zovW []) 100000 zcut0 3 420 kX8_passes (zkinL zyx21q) 0 (zargs 0 zyx21a, [], (zyh210.1, zyh210.2.1, 0), 0, 0)
/-! X8_passes -/
noncomputable def zyx22a : List zAV := [zyv315, zyv318]
noncomputable def zyx22q : List (Option zAV × zH) := [(some (.inl ((.ofNat 0, .ofNat 0), none)), zyh214), (some (.inl ((.ofNat 1, .ofNat 1), none)), zyh215)]
noncomputable def zyx22d : zKw := (263, 2, 3, 420, zyx22a, zyh213, zyx22q)
noncomputable def zbzyx22e : Bool := zrunw zprog2 (zovW []) 100000 zcut0 3 420 kX8_passes (zkinL zyx22q) 0 (zargs 0 zyx22a, [], (zyh213.1, zyh213.2.1, 0), 0, 0)
/-! X8_passes -/
noncomputable def zyx23a : List zAV := [zyv315, zyv318]
noncomputable def zyx23q : List (Option zAV × zH) := [(some (.inl ((.ofNat 0, .ofNat 0), none)), zyh217), (some (.inl ((.ofNat 1, .ofNat 1), none)), zyh218)]
noncomputable def zyx23d : zKw := (263, 2, 3, 420, zyx23a, zyh216, zyx23q)
noncomputable def zbzyx23e : Bool := zrunw zprog2 (zovW []) 100000 zcut0 3 420 kX8_passes (zkinL zyx23q) 0 (zargs 0 zyx23a, [], (zyh216.1, zyh216.2.1, 0), 0, 0)
/-! X8_passes -/
noncomputable def zyx24a : List zAV := [zyv315, zyv318]
noncomputable def zyx24q : List (Option zAV × zH) := [(some (.inl ((.ofNat 0, .ofNat 0), none)), zyh220), (some (.inl ((.ofNat 1, .ofNat 1), none)), zyh221)]
noncomputable def zyx24d : zKw := (263, 2, 3, 420, zyx24a, zyh219, zyx24q)
noncomputable def zbzyx24e : Bool := zrunw zprog2 (zovW []) 100000 zcut0 3 420 kX8_passes (zkinL zyx24q) 0 (zargs 0 zyx24a, [], (zyh219.1, zyh219.2.1, 0), 0, 0)
/-! X8_passes -/
noncomputable def zyx25a : List zAV := [zyv315, zyv318]
noncomputable def zyx25q : List (Option zAV × zH) := [(some (.inl ((.ofNat 0, .ofNat 0), none)), zyh223), (some (.inl ((.ofNat 1, .ofNat 1), none)), zyh224)]
noncomputable def zyx25d : zKw := (263, 2, 3, 420, zyx25a, zyh222, zyx25q)
noncomputable def zbzyx25e : Bool := zrunw zprog2 (zovW []) 100000 zcut0 3 420 kX8_passes (zkinL zyx25q) 0 (zargs 0 zyx25a, [], (zyh222.1, zyh222.2.1, 0), 0, 0)
/-! X8_passes -/
noncomputable def zyx26a : List zAV := [zyv315, zyv318]
noncomputable def zyx26q : List (Option zAV × zH) := [(some (.inl ((.ofNat 0, .ofNat 0), none)), zyh226), (some (.inl ((.ofNat 1, .ofNat 1), none)), zyh227)]
noncomputable def zyx26d : zKw := (263, 2, 3, 420, zyx26a, zyh225, zyx26q)
noncomputable def zbzyx26e : Bool := zrunw zprog2 (zovW []) 100000 zcut0 3 420 kX8_passes (zkinL zyx26q) 0 (zargs 0 zyx26a, [], (zyh225.1, zyh225.2.1, 0), 0, 0)
/-! X8_passes -/
noncomputable def zyx27a : List zAV := [zyv315, zyv318]
noncomputable def zyx27q : List (Option zAV × zH) := [(some (.inl ((.ofNat 0, .ofNat 0), none)), zyh229), (some (.inl ((.ofNat 1, .ofNat 1), none)), zyh230)]
noncomputable def zyx27d : zKw := (263, 2, 3, 420, zyx27a, zyh228, zyx27q)
noncomputable def zbzyx27e : Bool := zrunw zprog2 (zovW []) 100000 zcut0 3 420 kX8_passes (zkinL zyx27q) 0 (zargs 0 zyx27a, [], (zyh228.1, zyh228.2.1, 0), 0, 0)
/-! X8_passes -/
noncomputable def zyx28a : List zAV := [zyv315, zyv318]
noncomputable def zyx28q : List (Option zAV × zH) := [(some (.inl ((.ofNat 0, .ofNat 0), none)), zyh232), (some (.inl ((.ofNat 1, .ofNat 1), none)), zyh233)]
noncomputable def zyx28d : zKw := (263, 2, 3, 420, zyx28a, zyh231, zyx28q)
noncomputable def zbzyx28e : Bool := zrunw zprog2 (zovW []) 100000 zcut0 3 420 kX8_passes (zkinL zyx28q) 0 (zargs 0 zyx28a, [], (zyh231.1, zyh231.2.1, 0), 0, 0)
/-! X8_passes -/
noncomputable def zyx29a : List zAV := [zyv315, zyv318]
noncomputable def zyx29q : List (Option zAV × zH) := [(some (.inl ((.ofNat 0, .ofNat 0), none)), zyh235), (some (.inl ((.ofNat 1, .ofNat 1), none)), zyh236)]
noncomputable def zyx29d : zKw := (263, 2, 3, 420, zyx29a, zyh234, zyx29q)
noncomputable def zbzyx29e : Bool := zrunw zprog2 (zovW []) 100000 zcut0 3 420 kX8_passes (zkinL zyx29q) 0 (zargs 0 zyx29a, [], (zyh234.1, zyh234.2.1, 0), 0, 0)
/-! X8_passes -/
noncomputable def zyx30a : List zAV := [zyv315, zyv318]
noncomputable def zyx30q : List (Option zAV × zH) := [(some (.inl ((.ofNat 0, .ofNat 0), none)), zyh238), (some (.inl ((.ofNat 1, .ofNat 1), none)), zyh239)]
noncomputable def zyx30d : zKw := (263, 2, 3, 420, zyx30a, zyh237, zyx30q)
noncomputable def zbzyx30e : Bool := zrunw zprog2 (zovW []) 100000 zcut0 3 420 kX8_passes (zkinL zyx30q) 0 (zargs 0 zyx30a, [], (zyh237.1, zyh237.2.1, 0), 0, 0)
/-! X8_passes -/
noncomputable def zyx31a : List zAV := [zyv315, zyv318]
noncomputable def zyx31q : List (Option zAV × zH) := [(some (.inl ((.ofNat 0, .ofNat 0), none)), zyh241), (some (.inl ((.ofNat 1, .ofNat 1), none)), zyh242)]
noncomputable def zyx31d : zKw := (263, 2, 3, 420, zyx31a, zyh240, zyx31q)
noncomputable def zbzyx31e : Bool := zrunw zprog2 (zovW []) 100000 zcut0 3 420 kX8_passes (zkinL zyx31q) 0 (zargs 0 zyx31a, [], (zyh240.1, zyh240.2.1, 0), 0, 0)
/-! X8_passes -/
noncomputable def zyx32a : List zAV := [zyv315, zyv318]
noncomputable def zyx32q : List (Option zAV × zH) := [(some (.inl ((.ofNat 0, .ofNat 0), none)), zyh244), (some (.inl ((.ofNat 1, .ofNat 1), none)), zyh245)]
noncomputable def zyx32d : zKw := (263, 2, 3, 420, zyx32a, zyh243, zyx32q)
noncomputable def zbzyx32e : Bool := zrunw zprog2 (zovW []) 100000 zcut0 3 420 kX8_passes (zkinL zyx32q) 0 (zargs 0 zyx32a, [], (zyh243.1, zyh243.2.1, 0), 0, 0)
/-! X8_passes -/
noncomputable def zyx33a : List zAV := [zyv315, zyv318]
noncomputable def zyx33q : List (Option zAV × zH) := [(some (.inl ((.ofNat 0, .ofNat 0), none)), zyh247), (some (.inl ((.ofNat 1, .ofNat 1), none)), zyh248)]
noncomputable def zyx33d : zKw := (263, 2, 3, 420, zyx33a, zyh246, zyx33q)
noncomputable def zbzyx33e : Bool := zrunw zprog2 (zovW []) 100000 zcut0 3 420 kX8_passes (zkinL zyx33q) 0 (zargs 0 zyx33a, [], (zyh246.1, zyh246.2.1, 0), 0, 0)
/-! X8_passes -/
noncomputable def zyx34a : List zAV := [zyv315, zyv318]
noncomputable def zyx34q : List (Option zAV × zH) := [(some (.inl ((.ofNat 0, .ofNat 0), none)), zyh250), (some (.inl ((.ofNat 1, .ofNat 1), none)), zyh251)]
noncomputable def zyx34d : zKw := (263, 2, 3, 420, zyx34a, zyh249, zyx34q)
noncomputable def zbzyx34e : Bool := zrunw zprog2 (zovW []) 100000 zcut0 3 420 kX8_passes (zkinL zyx34q) 0 (zargs 0 zyx34a, [], (zyh249.1, zyh249.2.1, 0), 0, 0)
/-! X8_passes -/
noncomputable def zyx35a : List zAV := [zyv315, zyv318]
noncomputable def zyx35q : List (Option zAV × zH) := [(some (.inl ((.ofNat 0, .ofNat 0), none)), zyh253), (some (.inl ((.ofNat 1, .ofNat 1), none)), zyh254)]
noncomputable def zyx35d : zKw := (263, 2, 3, 420, zyx35a, zyh252, zyx35q)
noncomputable def zbzyx35e : Bool := zrunw zprog2 (zovW []) 100000 zcut0 3 420 kX8_passes (zkinL zyx35q) 0 (zargs 0 zyx35a, [], (zyh252.1, zyh252.2.1, 0), 0, 0)
/-! X8_passes -/
noncomputable def zyx36a : List zAV := [zyv315, zyv318]
noncomputable def zyx36q : List (Option zAV × zH) := [(some (.inl ((.ofNat 0, .ofNat 0), none)), zyh256), (some (.inl ((.ofNat 1, .ofNat 1), none)), zyh257)]
noncomputable def zyx36d : zKw := (263, 2, 3, 420, zyx36a, zyh255, zyx36q)
noncomputable def zbzyx36e : Bool := zrunw zprog2 (zovW []) 100000 zcut0 3 420 kX8_passes (zkinL zyx36q) 0 (zargs 0 zyx36a, [], (zyh255.1, zyh255.2.1, 0), 0, 0)
/-! X8_passes -/
noncomputable def zyx37a : List zAV := [zyv315, zyv318]
noncomputable def zyx37q : List (Option zAV × zH) := [(some (.inl ((.ofNat 0, .ofNat 0), none)), zyh259), (some (.inl ((.ofNat 1, .ofNat 1), none)), zyh260)]
noncomputable def zyx37d : zKw := (263, 2, 3, 420, zyx37a, zyh258, zyx37q)
noncomputable def zbzyx37e : Bool := zrunw zprog2 (zovW []) 100000 zcut0 3 420 kX8_passes (zkinL zyx37q) 0 (zargs 0 zyx37a, [], (zyh258.1, zyh258.2.1, 0), 0, 0)
/-! X8_passes -/
noncomputable def zyx38a : List zAV := [zyv315, zyv318]
noncomputable def zyx38q : List (Option zAV × zH) := [(some (.inl ((.ofNat 0, .ofNat 0), none)), zyh262), (some (.inl ((.ofNat 1, .ofNat 1), none)), zyh263)]
noncomputable def zyx38d : zKw := (263, 2, 3, 420, zyx38a, zyh261, zyx38q)
noncomputable def zbzyx38e : Bool := zrunw zprog2 (zovW []) 100000 zcut0 3 420 kX8_passes (zkinL zyx38q) 0 (zargs 0 zyx38a, [], (zyh261.1, zyh261.2.1, 0), 0, 0)
/-! X8_passes -/
noncomputable def zyx39a : List zAV := [zyv315, zyv318]
noncomputable def zyx39q : List (Option zAV × zH) := [(some (.inl ((.ofNat 0, .ofNat 0), none)), zyh265), (some (.inl ((.ofNat 1, .ofNat 1), none)), zyh266)]
noncomputable def zyx39d : zKw := (263, 2, 3, 420, zyx39a, zyh264, zyx39q)
noncomputable def zbzyx39e : Bool := zrunw zprog2 (zovW []) 100000 zcut0 3 420 kX8_passes (zkinL zyx39q) 0 (zargs 0 zyx39a, [], (zyh264.1, zyh264.2.1, 0), 0, 0)
/-! X8_passes -/
noncomputable def zyx40a : List zAV := [zyv315, zyv318]
noncomputable def zyx40q : List (Option zAV × zH) := [(some (.inl ((.ofNat 0, .ofNat 0), none)), zyh268), (some (.inl ((.ofNat 1, .ofNat 1), none)), zyh269)]
noncomputable def zyx40d : zKw := (263, 2, 3, 420, zyx40a, zyh267, zyx40q)
noncomputable def zbzyx40e : Bool := zrunw zprog2 (zovW []) 100000 zcut0 3 420 kX8_passes (zkinL zyx40q) 0 (zargs 0 zyx40a, [], (zyh267.1, zyh267.2.1, 0), 0, 0)
/-! X8_passes -/
noncomputable def zyx41a : List zAV := [zyv315, zyv318]
noncomputable def zyx41q : List (Option zAV × zH) := [(some (.inl ((.ofNat 0, .ofNat 0), none)), zyh271), (some (.inl ((.ofNat 1, .ofNat 1), none)), zyh272)]
noncomputable def zyx41d : zKw := (263, 2, 3, 420, zyx41a, zyh270, zyx41q)
noncomputable def zbzyx41e : Bool := zrunw zprog2 (zovW []) 100000 zcut0 3 420 kX8_passes (zkinL zyx41q) 0 (zargs 0 zyx41a, [], (zyh270.1, zyh270.2.1, 0), 0, 0)
/-! X8_passes -/
noncomputable def zyx42a : List zAV := [zyv315, zyv318]
noncomputable def zyx42q : List (Option zAV × zH) := [(some (.inl ((.ofNat 0, .ofNat 0), none)), zyh274), (some (.inl ((.ofNat 1, .ofNat 1), none)), zyh275)]
noncomputable def zyx42d : zKw := (263, 2, 3, 420, zyx42a, zyh273, zyx42q)
noncomputable def zbzyx42e : Bool := zrunw zprog2 (zovW []) 100000 zcut0 3 420 kX8_passes (zkinL zyx42q) 0 (zargs 0 zyx42a, [], (zyh273.1, zyh273.2.1, 0), 0, 0)
/-! X8_passes -/
noncomputable def zyx43a : List zAV := [zyv315, zyv318]
noncomputable def zyx43q : List (Option zAV × zH) := [(some (.inl ((.ofNat 0, .ofNat 0), none)), zyh277), (some (.inl ((.ofNat 1, .ofNat 1), none)), zyh278)]
noncomputable def zyx43d : zKw := (263, 2, 3, 420, zyx43a, zyh276, zyx43q)
noncomputable def zbzyx43e : Bool := zrunw zprog2 (zovW []) 100000 zcut0 3 420 kX8_passes (zkinL zyx43q) 0 (zargs 0 zyx43a, [], (zyh276.1, zyh276.2.1, 0), 0, 0)
/-! X8_passes -/
noncomputable def zyx44a : List zAV := [zyv315, zyv318]
noncomputable def zyx44q : List (Option zAV × zH) := [(some (.inl ((.ofNat 0, .ofNat 0), none)), zyh280), (some (.inl ((.ofNat 1, .ofNat 1), none)), zyh281)]
noncomputable def zyx44d : zKw := (263, 2, 3, 420, zyx44a, zyh279, zyx44q)
noncomputable def zbzyx44e : Bool := zrunw zprog2 (zovW []) 100000 zcut0 3 420 kX8_passes (zkinL zyx44q) 0 (zargs 0 zyx44a, [], (zyh279.1, zyh279.2.1, 0), 0, 0)
/-! X8_passes -/
noncomputable def zyx45a : List zAV := [zyv315, zyv318]
noncomputable def zyx45q : List (Option zAV × zH) := [(some (.inl ((.ofNat 0, .ofNat 0), none)), zyh283), (some (.inl ((.ofNat 1, .ofNat 1), none)), zyh284)]
noncomputable def zyx45d : zKw := (263, 2, 3, 420, zyx45a, zyh282, zyx45q)
noncomputable def zbzyx45e : Bool := zrunw zprog2 (zovW []) 100000 zcut0 3 420 kX8_passes (zkinL zyx45q) 0 (zargs 0 zyx45a, [], (zyh282.1, zyh282.2.1, 0), 0, 0)
/-! X8_passes -/
noncomputable def zyx46a : List zAV := [zyv315, zyv318]
noncomputable def zyx46q : List (Option zAV × zH) := [(some (.inl ((.ofNat 0, .ofNat 0), none)), zyh286), (some (.inl ((.ofNat 1, .ofNat 1), none)), zyh287)]
noncomputable def zyx46d : zKw := (263, 2, 3, 420, zyx46a, zyh285, zyx46q)
noncomputable def zbzyx46e : Bool := zrunw zprog2 (zovW []) 100000 zcut0 3 420 kX8_passes (zkinL zyx46q) 0 (zargs 0 zyx46a, [], (zyh285.1, zyh285.2.1, 0), 0, 0)
/-! X8_passes -/
noncomputable def zyx47a : List zAV := [zyv315, zyv318]
noncomputable def zyx47q : List (Option zAV × zH) := [(some (.inl ((.ofNat 0, .ofNat 0), none)), zyh289), (some (.inl ((.ofNat 1, .ofNat 1), none)), zyh290)]
noncomputable def zyx47d : zKw := (263, 2, 3, 420, zyx47a, zyh288, zyx47q)
noncomputable def zbzyx47e : Bool := zrunw zprog2 (zovW []) 100000 zcut0 3 420 kX8_passes (zkinL zyx47q) 0 (zargs 0 zyx47a, [], (zyh288.1, zyh288.2.1, 0), 0, 0)
/-! X8_passes -/
noncomputable def zyx48a : List zAV := [zyv315, zyv318]
noncomputable def zyx48q : List (Option zAV × zH) := [(some (.inl ((.ofNat 0, .ofNat 0), none)), zyh292)]
noncomputable def zyx48d : zKw := (263, 2, 3, 420, zyx48a, zyh291, zyx48q)
noncomputable def zbzyx48e : Bool := zrunw zprog2 (zovW []) 100000 zcut0 3 420 kX8_passes (zkinL zyx48q) 0 (zargs 0 zyx48a, [], (zyh291.1, zyh291.2.1, 0), 0, 0)
/-! X8_thing -/
noncomputable def zyx49a : List zAV := [.inr (.inr (.inl 94)), .inl ((.ofNat 0, .ofNat 4), none)]
def zyx49r : Option zAV := some (.inl ((.negSucc 2147483647, .ofNat 2147483647), none))
noncomputable def zyx49d : zKw := (292, 4, 4, 540, zyx49a, zyh291, [(zyx49r, zyh292)])
noncomputable def zbzyx49e : Bool := zrunw zprog2 (zovW [zyx48d]) 100000 (zcutW [] none ((zyx49r, zyh292), 4, 540) []) 4 540 k2X8_thing (zkin zyx49r zyh292) 0 (zargs 0 zyx49a, [], (zyh291.1, zyh291.2.1, 0), 0, 0)
/-! X8_product ((('r', 99), 40, 40),) -/
noncomputable def zyx50a : List zAV := [.inr (.inr (.inl 94)), .inl ((.ofNat 0, .ofNat 4), none)]
def zyx50r : Option zAV := some (.inl ((.negSucc 2147483647, .ofNat 2147483647), none))
noncomputable def zyx50q : zPw := ((6, ([(0, .inr (.inr (.inl 94))), (1, .inl ((.ofNat 0, .ofNat 4), some (1, .ofNat 0))), (2, .inl ((.negSucc 2147483647, .ofNat 2147483647), some (2, .ofNat 0)))], [], zyh292, 0, 0), [], 0), (zyx50r, zyh292), 5, 660)
noncomputable def zbzyx50c : Bool := zchkX [(94, 15)] zprog2 (zovW [zyx49d]) 100000 k2X8_product [] [zyx50q] [zyx50q]
noncomputable def zyx50d : zKw := (265, 5, 5, 660, zyx50a, zyh291, [(zyx50r, zyh292)])
noncomputable def zbzyx50e : Bool := zrunw zprog2 (zovW [zyx49d]) 100000 (zcutW [(94, 15)] none ((zyx50r, zyh292), 5, 660) [zyx50q]) 5 660 k2X8_product (zkin zyx50r zyh292) 0 (zargs 0 zyx50a, [], (zyh291.1, zyh291.2.1, 0), 0, 0)
/-! X8_sum ((('r', 99), 40, 40),) -/
noncomputable def zyx51a : List zAV := [.inr (.inr (.inl 94)), .inl ((.ofNat 1, .ofNat 4), none)]
def zyx51r : Option zAV := some (.inl ((.negSucc 2147483647, .ofNat 2147483647), none))
noncomputable def zyx51q : zPw := ((6, ([(0, .inr (.inr (.inl 94))), (1, .inl ((.ofNat 0, .ofNat 4), some (1, .ofNat 0))), (2, .inl ((.negSucc 2147483647, .ofNat 2147483647), some (2, .ofNat 0)))], [], zyh292, 0, 0), [], 0), (zyx51r, zyh292), 6, 780)
noncomputable def zbzyx51c : Bool := zchkX [(94, 15)] zprog2 (zovW [zyx50d]) 100000 kX8_sum [] [zyx51q] [zyx51q]
noncomputable def zyx51d : zKw := (284, 5, 6, 780, zyx51a, zyh291, [(zyx51r, zyh292)])
noncomputable def zbzyx51e : Bool := zrunw zprog2 (zovW [zyx50d]) 100000 (zcutW [(94, 15)] none ((zyx51r, zyh292), 6, 780) [zyx51q]) 6 780 kX8_sum (zkin zyx51r zyh292) 0 (zargs 0 zyx51a, [], (zyh291.1, zyh291.2.1, 0), 0, 0)
/-! X8_heldBy -/
noncomputable def zyx52a : List zAV := [.inr (.inr (.inl 94)), .inl ((.ofNat 1, .ofNat 4), none)]
def zyx52r : Option zAV := some (.inl ((.negSucc 2147483647, .ofNat 2147483647), none))
noncomputable def zyx52d : zKw := (229, 3, 7, 900, zyx52a, zyh291, [(zyx52r, zyh292)])
noncomputable def zbzyx52e : Bool := zrunw zprog2 (zovW [zyx51d, zyx48d]) 100000 (zcutW [] none ((zyx52r, zyh292), 7, 900) []) 7 900 kX8_heldBy (zkin zyx52r zyh292) 0 (zargs 0 zyx52a, [], (zyh291.1, zyh291.2.1, 0), 0, 0)
/-! X8_oneOf -/
noncomputable def zyx53a : List zAV := [zyv315, zyv357, zyv358]
noncomputable def zyx53q : List (Option zAV × zH) := [(some (.inl ((.ofNat 0, .ofNat 0), none)), zyh293), (some (.inl ((.negSucc 175, .ofNat 79), none)), zyh290)]
noncomputable def zyx53d : zKw := (260, 3, 4, 480, zyx53a, zyh288, zyx53q)
noncomputable def zbzyx53e : Bool := zrunw zprog2 (zovW []) 100000 zcut0 4 480 kX8_oneOf (zkinL zyx53q) 0 (zargs 0 zyx53a, [], (zyh288.1, zyh288.2.1, 0), 0, 0)
/-! X8_number -/
noncomputable def zyx54a : List zAV := [.inr (.inr (.inl 94)), .inl ((.ofNat 3, .ofNat 3), none)]
def zyx54r : Option zAV := some (.inl ((.negSucc 2147483647, .ofNat 2147483647), none))
noncomputable def zyx54q0 : zPw := ((11, ([(0, .inr (.inr (.inl 94))), (1, .inl ((.ofNat 3, .ofNat 3), some (1, .ofNat 0))), (2, .inl ((.negSucc 2147483647, .ofNat 2147483647), some (2, .ofNat 0))), (3, .inl ((.ofNat 1, .ofNat 3), some (3, .ofNat 0)))], [], zyh289, 0, 0), [(3, .negSucc 1)], .ofNat 7), (zyx54r, zyh289), 5, 600)
noncomputable def zbzyx54c0 : Bool := zchkX [] zprog2 (zovW [zyx53d]) 100000 kX8_number [] [zyx54q0] [zyx54q0]
noncomputable def zyx54d : zKw := (259, 4, 5, 600, zyx54a, zyh288, [(zyx54r, zyh289)])
noncomputable def zbzyx54e : Bool := zrunw zprog2 (zovW [zyx53d]) 100000 (zcutW [] none ((zyx54r, zyh289), 5, 600) [zyx54q0]) 5 600 kX8_number (zkin zyx54r zyh289) 0 (zargs 0 zyx54a, [], (zyh288.1, zyh288.2.1, 0), 0, 0)
/-! X8_thing -/
noncomputable def zyx55a : List zAV := [.inr (.inr (.inl 94)), .inl ((.ofNat 0, .ofNat 4), none)]
def zyx55r : Option zAV := some (.inl ((.negSucc 2147483647, .ofNat 2147483647), none))
noncomputable def zyx55d : zKw := (292, 4, 8, 1020, zyx55a, zyh288, [(zyx55r, zyh289)])
noncomputable def zbzyx55e : Bool := zrunw zprog2 (zovW [zyx52d, zyx49d, zyx48d, zyx54d, zyx47d]) 100000 (zcutW [] none ((zyx55r, zyh289), 8, 1020) []) 8 1020 k2X8_thing (zkin zyx55r zyh289) 0 (zargs 0 zyx55a, [], (zyh288.1, zyh288.2.1, 0), 0, 0)
/-! X8_product ((('r', 99), 40, 39),) -/
noncomputable def zyx56a : List zAV := [.inr (.inr (.inl 94)), .inl ((.ofNat 0, .ofNat 4), none)]
def zyx56r : Option zAV := some (.inl ((.negSucc 2147483647, .ofNat 2147483647), none))
noncomputable def zyx56q : zPw := ((6, ([(0, .inr (.inr (.inl 94))), (1, .inl ((.ofNat 0, .ofNat 4), some (1, .ofNat 0))), (2, .inl ((.negSucc 2147483647, .ofNat 2147483647), some (2, .ofNat 0)))], [], zyh289, 0, 0), [], 0), (zyx56r, zyh289), 9, 1140)
noncomputable def zbzyx56c : Bool := zchkX [(94, 15)] zprog2 (zovW [zyx49d, zyx55d]) 100000 k2X8_product [zyx50q] [zyx56q] [zyx56q]
noncomputable def zyx56d : zKw := (265, 5, 9, 1140, zyx56a, zyh288, [(zyx56r, zyh289)])
noncomputable def zbzyx56e : Bool := zrunw zprog2 (zovW [zyx49d, zyx55d]) 100000 (zcutW [(94, 15)] none ((zyx56r, zyh289), 9, 1140) [zyx56q, zyx50q]) 9 1140 k2X8_product (zkin zyx56r zyh289) 0 (zargs 0 zyx56a, [], (zyh288.1, zyh288.2.1, 0), 0, 0)
/-! X8_sum ((('r', 99), 40, 39),) -/
noncomputable def zyx57a : List zAV := [.inr (.inr (.inl 94)), .inl ((.ofNat 1, .ofNat 4), none)]
def zyx57r : Option zAV := some (.inl ((.negSucc 2147483647, .ofNat 2147483647), none))
noncomputable def zyx57q : zPw := ((6, ([(0, .inr (.inr (.inl 94))), (1, .inl ((.ofNat 0, .ofNat 4), some (1, .ofNat 0))), (2, .inl ((.negSucc 2147483647, .ofNat 2147483647), some (2, .ofNat 0)))], [], zyh289, 0, 0), [], 0), (zyx57r, zyh289), 10, 1260)
noncomputable def zbzyx57c : Bool := zchkX [(94, 15)] zprog2 (zovW [zyx50d, zyx56d]) 100000 kX8_sum [zyx51q] [zyx57q] [zyx57q]
noncomputable def zyx57d : zKw := (284, 5, 10, 1260, zyx57a, zyh288, [(zyx57r, zyh289)])
noncomputable def zbzyx57e : Bool := zrunw zprog2 (zovW [zyx50d, zyx56d]) 100000 (zcutW [(94, 15)] none ((zyx57r, zyh289), 10, 1260) [zyx57q, zyx51q]) 10 1260 kX8_sum (zkin zyx57r zyh289) 0 (zargs 0 zyx57a, [], (zyh288.1, zyh288.2.1, 0), 0, 0)
/-! X8_heldBy -/
noncomputable def zyx58a : List zAV := [.inr (.inr (.inl 94)), .inl ((.ofNat 1, .ofNat 4), none)]
def zyx58r : Option zAV := some (.inl ((.negSucc 2147483647, .ofNat 2147483647), none))
noncomputable def zyx58d : zKw := (229, 3, 11, 1380, zyx58a, zyh288, [(zyx58r, zyh289)])
noncomputable def zbzyx58e : Bool := zrunw zprog2 (zovW [zyx51d, zyx57d, zyx47d]) 100000 (zcutW [] none ((zyx58r, zyh289), 11, 1380) []) 11 1380 kX8_heldBy (zkin zyx58r zyh289) 0 (zargs 0 zyx58a, [], (zyh288.1, zyh288.2.1, 0), 0, 0)
/-! X8_oneOf -/
noncomputable def zyx59a : List zAV := [zyv315, zyv357, zyv358]
noncomputable def zyx59q : List (Option zAV × zH) := [(some (.inl ((.ofNat 0, .ofNat 0), none)), zyh294), (some (.inl ((.negSucc 175, .ofNat 79), none)), zyh287)]
noncomputable def zyx59d : zKw := (260, 3, 4, 480, zyx59a, zyh285, zyx59q)
noncomputable def zbzyx59e : Bool := zrunw zprog2 (zovW []) 100000 zcut0 4 480 kX8_oneOf (zkinL zyx59q) 0 (zargs 0 zyx59a, [], (zyh285.1, zyh285.2.1, 0), 0, 0)
/-! X8_number -/
noncomputable def zyx60a : List zAV := [.inr (.inr (.inl 94)), .inl ((.ofNat 3, .ofNat 3), none)]
def zyx60r : Option zAV := some (.inl ((.negSucc 2147483647, .ofNat 2147483647), none))
noncomputable def zyx60q0 : zPw := ((11, ([(0, .inr (.inr (.inl 94))), (1, .inl ((.ofNat 3, .ofNat 3), some (1, .ofNat 0))), (2, .inl ((.negSucc 2147483647, .ofNat 2147483647), some (2, .ofNat 0))), (3, .inl ((.ofNat 1, .ofNat 3), some (3, .ofNat 0)))], [], zyh286, 0, 0), [(3, .negSucc 1)], .ofNat 7), (zyx60r, zyh286), 5, 600)
noncomputable def zbzyx60c0 : Bool := zchkX [] zprog2 (zovW [zyx59d]) 100000 kX8_number [] [zyx60q0] [zyx60q0]
noncomputable def zyx60d : zKw := (259, 4, 5, 600, zyx60a, zyh285, [(zyx60r, zyh286)])
noncomputable def zbzyx60e : Bool := zrunw zprog2 (zovW [zyx59d]) 100000 (zcutW [] none ((zyx60r, zyh286), 5, 600) [zyx60q0]) 5 600 kX8_number (zkin zyx60r zyh286) 0 (zargs 0 zyx60a, [], (zyh285.1, zyh285.2.1, 0), 0, 0)
/-! X8_thing -/
noncomputable def zyx61a : List zAV := [.inr (.inr (.inl 94)), .inl ((.ofNat 0, .ofNat 4), none)]
def zyx61r : Option zAV := some (.inl ((.negSucc 2147483647, .ofNat 2147483647), none))
noncomputable def zyx61d : zKw := (292, 4, 12, 1500, zyx61a, zyh285, [(zyx61r, zyh286)])
noncomputable def zbzyx61e : Bool := zrunw zprog2 (zovW [zyx58d, zyx55d, zyx47d, zyx60d, zyx46d]) 100000 (zcutW [] none ((zyx61r, zyh286), 12, 1500) []) 12 1500 k2X8_thing (zkin zyx61r zyh286) 0 (zargs 0 zyx61a, [], (zyh285.1, zyh285.2.1, 0), 0, 0)
/-! X8_product ((('r', 99), 40, 38),) -/
noncomputable def zyx62a : List zAV := [.inr (.inr (.inl 94)), .inl ((.ofNat 0, .ofNat 4), none)]
def zyx62r : Option zAV := some (.inl ((.negSucc 2147483647, .ofNat 2147483647), none))
noncomputable def zyx62q : zPw := ((6, ([(0, .inr (.inr (.inl 94))), (1, .inl ((.ofNat 0, .ofNat 4), some (1, .ofNat 0))), (2, .inl ((.negSucc 2147483647, .ofNat 2147483647), some (2, .ofNat 0)))], [], zyh286, 0, 0), [], 0), (zyx62r, zyh286), 13, 1620)
noncomputable def zbzyx62c : Bool := zchkX [(94, 15)] zprog2 (zovW [zyx55d, zyx61d]) 100000 k2X8_product [zyx56q, zyx50q] [zyx62q] [zyx62q]
noncomputable def zyx62d : zKw := (265, 5, 13, 1620, zyx62a, zyh285, [(zyx62r, zyh286)])
noncomputable def zbzyx62e : Bool := zrunw zprog2 (zovW [zyx55d, zyx61d]) 100000 (zcutW [(94, 15)] none ((zyx62r, zyh286), 13, 1620) [zyx62q, zyx56q, zyx50q]) 13 1620 k2X8_product (zkin zyx62r zyh286) 0 (zargs 0 zyx62a, [], (zyh285.1, zyh285.2.1, 0), 0, 0)
/-! X8_sum ((('r', 99), 40, 38),) -/
noncomputable def zyx63a : List zAV := [.inr (.inr (.inl 94)), .inl ((.ofNat 1, .ofNat 4), none)]
def zyx63r : Option zAV := some (.inl ((.negSucc 2147483647, .ofNat 2147483647), none))
noncomputable def zyx63q : zPw := ((6, ([(0, .inr (.inr (.inl 94))), (1, .inl ((.ofNat 0, .ofNat 4), some (1, .ofNat 0))), (2, .inl ((.negSucc 2147483647, .ofNat 2147483647), some (2, .ofNat 0)))], [], zyh286, 0, 0), [], 0), (zyx63r, zyh286), 14, 1740)
noncomputable def zbzyx63c : Bool := zchkX [(94, 15)] zprog2 (zovW [zyx56d, zyx62d]) 100000 kX8_sum [zyx57q, zyx51q] [zyx63q] [zyx63q]
noncomputable def zyx63d : zKw := (284, 5, 14, 1740, zyx63a, zyh285, [(zyx63r, zyh286)])
noncomputable def zbzyx63e : Bool := zrunw zprog2 (zovW [zyx56d, zyx62d]) 100000 (zcutW [(94, 15)] none ((zyx63r, zyh286), 14, 1740) [zyx63q, zyx57q, zyx51q]) 14 1740 kX8_sum (zkin zyx63r zyh286) 0 (zargs 0 zyx63a, [], (zyh285.1, zyh285.2.1, 0), 0, 0)
/-! X8_heldBy -/
noncomputable def zyx64a : List zAV := [.inr (.inr (.inl 94)), .inl ((.ofNat 1, .ofNat 4), none)]
def zyx64r : Option zAV := some (.inl ((.negSucc 2147483647, .ofNat 2147483647), none))
noncomputable def zyx64d : zKw := (229, 3, 15, 1860, zyx64a, zyh285, [(zyx64r, zyh286)])
noncomputable def zbzyx64e : Bool := zrunw zprog2 (zovW [zyx57d, zyx63d, zyx46d]) 100000 (zcutW [] none ((zyx64r, zyh286), 15, 1860) []) 15 1860 kX8_heldBy (zkin zyx64r zyh286) 0 (zargs 0 zyx64a, [], (zyh285.1, zyh285.2.1, 0), 0, 0)
/-! X8_oneOf -/
noncomputable def zyx65a : List zAV := [zyv315, zyv357, zyv358]
noncomputable def zyx65q : List (Option zAV × zH) := [(some (.inl ((.ofNat 0, .ofNat 0), none)), zyh295), (some (.inl ((.negSucc 175, .ofNat 79), none)), zyh284)]
noncomputable def zyx65d : zKw := (260, 3, 4, 480, zyx65a, zyh282, zyx65q)
noncomputable def zbzyx65e : Bool := zrunw zprog2 (zovW []) 100000 zcut0 4 480 kX8_oneOf (zkinL zyx65q) 0 (zargs 0 zyx65a, [], (zyh282.1, zyh282.2.1, 0), 0, 0)
/-! X8_number -/
noncomputable def zyx66a : List zAV := [.inr (.inr (.inl 94)), .inl ((.ofNat 3, .ofNat 3), none)]
def zyx66r : Option zAV := some (.inl ((.negSucc 2147483647, .ofNat 2147483647), none))
noncomputable def zyx66q0 : zPw := ((11, ([(0, .inr (.inr (.inl 94))), (1, .inl ((.ofNat 3, .ofNat 3), some (1, .ofNat 0))), (2, .inl ((.negSucc 2147483647, .ofNat 2147483647), some (2, .ofNat 0))), (3, .inl ((.ofNat 1, .ofNat 3), some (3, .ofNat 0)))], [], zyh283, 0, 0), [(3, .negSucc 1)], .ofNat 7), (zyx66r, zyh283), 5, 600)
noncomputable def zbzyx66c0 : Bool := zchkX [] zprog2 (zovW [zyx65d]) 100000 kX8_number [] [zyx66q0] [zyx66q0]
noncomputable def zyx66d : zKw := (259, 4, 5, 600, zyx66a, zyh282, [(zyx66r, zyh283)])
noncomputable def zbzyx66e : Bool := zrunw zprog2 (zovW [zyx65d]) 100000 (zcutW [] none ((zyx66r, zyh283), 5, 600) [zyx66q0]) 5 600 kX8_number (zkin zyx66r zyh283) 0 (zargs 0 zyx66a, [], (zyh282.1, zyh282.2.1, 0), 0, 0)
/-! X8_thing -/
noncomputable def zyx67a : List zAV := [.inr (.inr (.inl 94)), .inl ((.ofNat 0, .ofNat 4), none)]
def zyx67r : Option zAV := some (.inl ((.negSucc 2147483647, .ofNat 2147483647), none))
noncomputable def zyx67d : zKw := (292, 4, 16, 1980, zyx67a, zyh282, [(zyx67r, zyh283)])
noncomputable def zbzyx67e : Bool := zrunw zprog2 (zovW [zyx64d, zyx61d, zyx46d, zyx66d, zyx45d]) 100000 (zcutW [] none ((zyx67r, zyh283), 16, 1980) []) 16 1980 k2X8_thing (zkin zyx67r zyh283) 0 (zargs 0 zyx67a, [], (zyh282.1, zyh282.2.1, 0), 0, 0)
/-! X8_product ((('r', 99), 40, 37),) -/
noncomputable def zyx68a : List zAV := [.inr (.inr (.inl 94)), .inl ((.ofNat 0, .ofNat 4), none)]
def zyx68r : Option zAV := some (.inl ((.negSucc 2147483647, .ofNat 2147483647), none))
noncomputable def zyx68q : zPw := ((6, ([(0, .inr (.inr (.inl 94))), (1, .inl ((.ofNat 0, .ofNat 4), some (1, .ofNat 0))), (2, .inl ((.negSucc 2147483647, .ofNat 2147483647), some (2, .ofNat 0)))], [], zyh283, 0, 0), [], 0), (zyx68r, zyh283), 17, 2100)
noncomputable def zbzyx68c : Bool := zchkX [(94, 15)] zprog2 (zovW [zyx61d, zyx67d]) 100000 k2X8_product [zyx62q, zyx56q, zyx50q] [zyx68q] [zyx68q]
noncomputable def zyx68d : zKw := (265, 5, 17, 2100, zyx68a, zyh282, [(zyx68r, zyh283)])
noncomputable def zbzyx68e : Bool := zrunw zprog2 (zovW [zyx61d, zyx67d]) 100000 (zcutW [(94, 15)] none ((zyx68r, zyh283), 17, 2100) [zyx68q, zyx62q, zyx56q, zyx50q]) 17 2100 k2X8_product (zkin zyx68r zyh283) 0 (zargs 0 zyx68a, [], (zyh282.1, zyh282.2.1, 0), 0, 0)
noncomputable def zyg3 : List Bool := [zbzyx9e, zbzyx10e, zbzyx11e, zbzyx12e, zbzyx13e, zbzyx14e, zbzyx15e, zbzyx16e, zbzyx17e, zbzyx18e, zbzyx19e, zbzyx20e, zbzyx21e, zbzyx22e, zbzyx23e, zbzyx24e, zbzyx25e, zbzyx26e, zbzyx27e, zbzyx28e, zbzyx29e, zbzyx30e, zbzyx31e, zbzyx32e, zbzyx33e, zbzyx34e, zbzyx35e, zbzyx36e, zbzyx37e, zbzyx38e, zbzyx39e, zbzyx40e, zbzyx41e, zbzyx42e, zbzyx43e, zbzyx44e, zbzyx45e, zbzyx46e, zbzyx47e, zbzyx48e, zbzyx49e, zbzyx50c, zbzyx50e, zbzyx51c, zbzyx51e, zbzyx52e, zbzyx53e, zbzyx54c0, zbzyx54e, zbzyx55e, zbzyx56c, zbzyx56e, zbzyx57c, zbzyx57e, zbzyx58e, zbzyx59e, zbzyx60c0, zbzyx60e, zbzyx61e, zbzyx62c, zbzyx62e, zbzyx63c, zbzyx63e, zbzyx64e, zbzyx65e, zbzyx66c0, zbzyx66e, zbzyx67e, zbzyx68c, zbzyx68e]
set_option maxRecDepth 100000 in
theorem zyg3_ok : zall (fun b => b) zyg3 = true := by decide +kernel
theorem zyx9e : zrunw zprog2 (zovW []) 100000 zcut0 3 420 kX8_passes (zkinL zyx9q) 0 (zargs 0 zyx9a, [], (zyh174.1, zyh174.2.1, 0), 0, 0) = true := zall_ok zyg3_ok (k := 0) (a := zbzyx9e) rfl
theorem zyx9 {l : Launch} {D : va_G} {tys : List (ClassId × FieldType)} {o : zO} {z : Nat} (E : zEnv tys) : zKnW l D vwCl tys o z (zXX o z) zTs zprog2 zyx9d :=
  zkn_ml E (fun g => fun _ h => absurd h List.not_mem_nil) (show zget zprog2 263 = some mX8_passes from rfl) rfl (by decide) (by decide) (by decide) (by decide) zyx9e
theorem zyx10e : zrunw zprog2 (zovW []) 100000 zcut0 3 420 kX8_passes (zkinL zyx10q) 0 (zargs 0 zyx10a, [], (zyh177.1, zyh177.2.1, 0), 0, 0) = true := zall_ok zyg3_ok (k := 1) (a := zbzyx10e) rfl
theorem zyx10 {l : Launch} {D : va_G} {tys : List (ClassId × FieldType)} {o : zO} {z : Nat} (E : zEnv tys) : zKnW l D vwCl tys o z (zXX o z) zTs zprog2 zyx10d :=
  zkn_ml E (fun g => fun _ h => absurd h List.not_mem_nil) (show zget zprog2 263 = some mX8_passes from rfl) rfl (by decide) (by decide) (by decide) (by decide) zyx10e
theorem zyx11e : zrunw zprog2 (zovW []) 100000 zcut0 3 420 kX8_passes (zkinL zyx11q) 0 (zargs 0 zyx11a, [], (zyh180.1, zyh180.2.1, 0), 0, 0) = true := zall_ok zyg3_ok (k := 2) (a := zbzyx11e) rfl
theorem zyx11 {l : Launch} {D : va_G} {tys : List (ClassId × FieldType)} {o : zO} {z : Nat} (E : zEnv tys) : zKnW l D vwCl tys o z (zXX o z) zTs zprog2 zyx11d :=
  zkn_ml E (fun g => fun _ h => absurd h List.not_mem_nil) (show zget zprog2 263 = some mX8_passes from rfl) rfl (by decide) (by decide) (by decide) (by decide) zyx11e
theorem zyx12e : zrunw zprog2 (zovW []) 100000 zcut0 3 420 kX8_passes (zkinL zyx12q) 0 (zargs 0 zyx12a, [], (zyh183.1, zyh183.2.1, 0), 0, 0) = true := zall_ok zyg3_ok (k := 3) (a := zbzyx12e) rfl
theorem zyx12 {l : Launch} {D : va_G} {tys : List (ClassId × FieldType)} {o : zO} {z : Nat} (E : zEnv tys) : zKnW l D vwCl tys o z (zXX o z) zTs zprog2 zyx12d :=
  zkn_ml E (fun g => fun _ h => absurd h List.not_mem_nil) (show zget zprog2 263 = some mX8_passes from rfl) rfl (by decide) (by decide) (by decide) (by decide) zyx12e
theorem zyx13e : zrunw zprog2 (zovW []) 100000 zcut0 3 420 kX8_passes (zkinL zyx13q) 0 (zargs 0 zyx13a, [], (zyh186.1, zyh186.2.1, 0), 0, 0) = true := zall_ok zyg3_ok (k := 4) (a := zbzyx13e) rfl
theorem zyx13 {l : Launch} {D : va_G} {tys : List (ClassId × FieldType)} {o : zO} {z : Nat} (E : zEnv tys) : zKnW l D vwCl tys o z (zXX o z) zTs zprog2 zyx13d :=
  zkn_ml E (fun g => fun _ h => absurd h List.not_mem_nil) (show zget zprog2 263 = some mX8_passes from rfl) rfl (by decide) (by decide) (by decide) (by decide) zyx13e
theorem zyx14e : zrunw zprog2 (zovW []) 100000 zcut0 3 420 kX8_passes (zkinL zyx14q) 0 (zargs 0 zyx14a, [], (zyh189.1, zyh189.2.1, 0), 0, 0) = true := zall_ok zyg3_ok (k := 5) (a := zbzyx14e) rfl
theorem zyx14 {l : Launch} {D : va_G} {tys : List (ClassId × FieldType)} {o : zO} {z : Nat} (E : zEnv tys) : zKnW l D vwCl tys o z (zXX o z) zTs zprog2 zyx14d :=
  zkn_ml E (fun g => fun _ h => absurd h List.not_mem_nil) (show zget zprog2 263 = some mX8_passes from rfl) rfl (by decide) (by decide) (by decide) (by decide) zyx14e
theorem zyx15e : zrunw zprog2 (zovW []) 100000 zcut0 3 420 kX8_passes (zkinL zyx15q) 0 (zargs 0 zyx15a, [], (zyh192.1, zyh192.2.1, 0), 0, 0) = true := zall_ok zyg3_ok (k := 6) (a := zbzyx15e) rfl
theorem zyx15 {l : Launch} {D : va_G} {tys : List (ClassId × FieldType)} {o : zO} {z : Nat} (E : zEnv tys) : zKnW l D vwCl tys o z (zXX o z) zTs zprog2 zyx15d :=
  zkn_ml E (fun g => fun _ h => absurd h List.not_mem_nil) (show zget zprog2 263 = some mX8_passes from rfl) rfl (by decide) (by decide) (by decide) (by decide) zyx15e
theorem zyx16e : zrunw zprog2 (zovW []) 100000 zcut0 3 420 kX8_passes (zkinL zyx16q) 0 (zargs 0 zyx16a, [], (zyh195.1, zyh195.2.1, 0), 0, 0) = true := zall_ok zyg3_ok (k := 7) (a := zbzyx16e) rfl
theorem zyx16 {l : Launch} {D : va_G} {tys : List (ClassId × FieldType)} {o : zO} {z : Nat} (E : zEnv tys) : zKnW l D vwCl tys o z (zXX o z) zTs zprog2 zyx16d :=
  zkn_ml E (fun g => fun _ h => absurd h List.not_mem_nil) (show zget zprog2 263 = some mX8_passes from rfl) rfl (by decide) (by decide) (by decide) (by decide) zyx16e
theorem zyx17e : zrunw zprog2 (zovW []) 100000 zcut0 3 420 kX8_passes (zkinL zyx17q) 0 (zargs 0 zyx17a, [], (zyh198.1, zyh198.2.1, 0), 0, 0) = true := zall_ok zyg3_ok (k := 8) (a := zbzyx17e) rfl
theorem zyx17 {l : Launch} {D : va_G} {tys : List (ClassId × FieldType)} {o : zO} {z : Nat} (E : zEnv tys) : zKnW l D vwCl tys o z (zXX o z) zTs zprog2 zyx17d :=
  zkn_ml E (fun g => fun _ h => absurd h List.not_mem_nil) (show zget zprog2 263 = some mX8_passes from rfl) rfl (by decide) (by decide) (by decide) (by decide) zyx17e
theorem zyx18e : zrunw zprog2 (zovW []) 100000 zcut0 3 420 kX8_passes (zkinL zyx18q) 0 (zargs 0 zyx18a, [], (zyh201.1, zyh201.2.1, 0), 0, 0) = true := zall_ok zyg3_ok (k := 9) (a := zbzyx18e) rfl
theorem zyx18 {l : Launch} {D : va_G} {tys : List (ClassId × FieldType)} {o : zO} {z : Nat} (E : zEnv tys) : zKnW l D vwCl tys o z (zXX o z) zTs zprog2 zyx18d :=
  zkn_ml E (fun g => fun _ h => absurd h List.not_mem_nil) (show zget zprog2 263 = some mX8_passes from rfl) rfl (by decide) (by decide) (by decide) (by decide) zyx18e
theorem zyx19e : zrunw zprog2 (zovW []) 100000 zcut0 3 420 kX8_passes (zkinL zyx19q) 0 (zargs 0 zyx19a, [], (zyh204.1, zyh204.2.1, 0), 0, 0) = true := zall_ok zyg3_ok (k := 10) (a := zbzyx19e) rfl
theorem zyx19 {l : Launch} {D : va_G} {tys : List (ClassId × FieldType)} {o : zO} {z : Nat} (E : zEnv tys) : zKnW l D vwCl tys o z (zXX o z) zTs zprog2 zyx19d :=
  zkn_ml E (fun g => fun _ h => absurd h List.not_mem_nil) (show zget zprog2 263 = some mX8_passes from rfl) rfl (by decide) (by decide) (by decide) (by decide) zyx19e
theorem zyx20e : zrunw zprog2 (zovW []) 100000 zcut0 3 420 kX8_passes (zkinL zyx20q) 0 (zargs 0 zyx20a, [], (zyh207.1, zyh207.2.1, 0), 0, 0) = true := zall_ok zyg3_ok (k := 11) (a := zbzyx20e) rfl
theorem zyx20 {l : Launch} {D : va_G} {tys : List (ClassId × FieldType)} {o : zO} {z : Nat} (E : zEnv tys) : zKnW l D vwCl tys o z (zXX o z) zTs zprog2 zyx20d :=
  zkn_ml E (fun g => fun _ h => absurd h List.not_mem_nil) (show zget zprog2 263 = some mX8_passes from rfl) rfl (by decide) (by decide) (by decide) (by decide) zyx20e
theorem zyx21e : zrunw zprog2 (zovW []) 100000 zcut0 3 420 kX8_passes (zkinL zyx21q) 0 (zargs 0 zyx21a, [], (zyh210.1, zyh210.2.1, 0), 0, 0) = true := zall_ok zyg3_ok (k := 12) (a := zbzyx21e) rfl
theorem zyx21 {l : Launch} {D : va_G} {tys : List (ClassId × FieldType)} {o : zO} {z : Nat} (E : zEnv tys) : zKnW l D vwCl tys o z (zXX o z) zTs zprog2 zyx21d :=
  zkn_ml E (fun g => fun _ h => absurd h List.not_mem_nil) (show zget zprog2 263 = some mX8_passes from rfl) rfl (by decide) (by decide) (by decide) (by decide) zyx21e
theorem zyx22e : zrunw zprog2 (zovW []) 100000 zcut0 3 420 kX8_passes (zkinL zyx22q) 0 (zargs 0 zyx22a, [], (zyh213.1, zyh213.2.1, 0), 0, 0) = true := zall_ok zyg3_ok (k := 13) (a := zbzyx22e) rfl
theorem zyx22 {l : Launch} {D : va_G} {tys : List (ClassId × FieldType)} {o : zO} {z : Nat} (E : zEnv tys) : zKnW l D vwCl tys o z (zXX o z) zTs zprog2 zyx22d :=
  zkn_ml E (fun g => fun _ h => absurd h List.not_mem_nil) (show zget zprog2 263 = some mX8_passes from rfl) rfl (by decide) (by decide) (by decide) (by decide) zyx22e
theorem zyx23e : zrunw zprog2 (zovW []) 100000 zcut0 3 420 kX8_passes (zkinL zyx23q) 0 (zargs 0 zyx23a, [], (zyh216.1, zyh216.2.1, 0), 0, 0) = true := zall_ok zyg3_ok (k := 14) (a := zbzyx23e) rfl
theorem zyx23 {l : Launch} {D : va_G} {tys : List (ClassId × FieldType)} {o : zO} {z : Nat} (E : zEnv tys) : zKnW l D vwCl tys o z (zXX o z) zTs zprog2 zyx23d :=
  zkn_ml E (fun g => fun _ h => absurd h List.not_mem_nil) (show zget zprog2 263 = some mX8_passes from rfl) rfl (by decide) (by decide) (by decide) (by decide) zyx23e
theorem zyx24e : zrunw zprog2 (zovW []) 100000 zcut0 3 420 kX8_passes (zkinL zyx24q) 0 (zargs 0 zyx24a, [], (zyh219.1, zyh219.2.1, 0), 0, 0) = true := zall_ok zyg3_ok (k := 15) (a := zbzyx24e) rfl
theorem zyx24 {l : Launch} {D : va_G} {tys : List (ClassId × FieldType)} {o : zO} {z : Nat} (E : zEnv tys) : zKnW l D vwCl tys o z (zXX o z) zTs zprog2 zyx24d :=
  zkn_ml E (fun g => fun _ h => absurd h List.not_mem_nil) (show zget zprog2 263 = some mX8_passes from rfl) rfl (by decide) (by decide) (by decide) (by decide) zyx24e
theorem zyx25e : zrunw zprog2 (zovW []) 100000 zcut0 3 420 kX8_passes (zkinL zyx25q) 0 (zargs 0 zyx25a, [], (zyh222.1, zyh222.2.1, 0), 0, 0) = true := zall_ok zyg3_ok (k := 16) (a := zbzyx25e) rfl
theorem zyx25 {l : Launch} {D : va_G} {tys : List (ClassId × FieldType)} {o : zO} {z : Nat} (E : zEnv tys) : zKnW l D vwCl tys o z (zXX o z) zTs zprog2 zyx25d :=
  zkn_ml E (fun g => fun _ h => absurd h List.not_mem_nil) (show zget zprog2 263 = some mX8_passes from rfl) rfl (by decide) (by decide) (by decide) (by decide) zyx25e
theorem zyx26e : zrunw zprog2 (zovW []) 100000 zcut0 3 420 kX8_passes (zkinL zyx26q) 0 (zargs 0 zyx26a, [], (zyh225.1, zyh225.2.1, 0), 0, 0) = true := zall_ok zyg3_ok (k := 17) (a := zbzyx26e) rfl
theorem zyx26 {l : Launch} {D : va_G} {tys : List (ClassId × FieldType)} {o : zO} {z : Nat} (E : zEnv tys) : zKnW l D vwCl tys o z (zXX o z) zTs zprog2 zyx26d :=
  zkn_ml E (fun g => fun _ h => absurd h List.not_mem_nil) (show zget zprog2 263 = some mX8_passes from rfl) rfl (by decide) (by decide) (by decide) (by decide) zyx26e
theorem zyx27e : zrunw zprog2 (zovW []) 100000 zcut0 3 420 kX8_passes (zkinL zyx27q) 0 (zargs 0 zyx27a, [], (zyh228.1, zyh228.2.1, 0), 0, 0) = true := zall_ok zyg3_ok (k := 18) (a := zbzyx27e) rfl
theorem zyx27 {l : Launch} {D : va_G} {tys : List (ClassId × FieldType)} {o : zO} {z : Nat} (E : zEnv tys) : zKnW l D vwCl tys o z (zXX o z) zTs zprog2 zyx27d :=
  zkn_ml E (fun g => fun _ h => absurd h List.not_mem_nil) (show zget zprog2 263 = some mX8_passes from rfl) rfl (by decide) (by decide) (by decide) (by decide) zyx27e
theorem zyx28e : zrunw zprog2 (zovW []) 100000 zcut0 3 420 kX8_passes (zkinL zyx28q) 0 (zargs 0 zyx28a, [], (zyh231.1, zyh231.2.1, 0), 0, 0) = true := zall_ok zyg3_ok (k := 19) (a := zbzyx28e) rfl
theorem zyx28 {l : Launch} {D : va_G} {tys : List (ClassId × FieldType)} {o : zO} {z : Nat} (E : zEnv tys) : zKnW l D vwCl tys o z (zXX o z) zTs zprog2 zyx28d :=
  zkn_ml E (fun g => fun _ h => absurd h List.not_mem_nil) (show zget zprog2 263 = some mX8_passes from rfl) rfl (by decide) (by decide) (by decide) (by decide) zyx28e
theorem zyx29e : zrunw zprog2 (zovW []) 100000 zcut0 3 420 kX8_passes (zkinL zyx29q) 0 (zargs 0 zyx29a, [], (zyh234.1, zyh234.2.1, 0), 0, 0) = true := zall_ok zyg3_ok (k := 20) (a := zbzyx29e) rfl
theorem zyx29 {l : Launch} {D : va_G} {tys : List (ClassId × FieldType)} {o : zO} {z : Nat} (E : zEnv tys) : zKnW l D vwCl tys o z (zXX o z) zTs zprog2 zyx29d :=
  zkn_ml E (fun g => fun _ h => absurd h List.not_mem_nil) (show zget zprog2 263 = some mX8_passes from rfl) rfl (by decide) (by decide) (by decide) (by decide) zyx29e
theorem zyx30e : zrunw zprog2 (zovW []) 100000 zcut0 3 420 kX8_passes (zkinL zyx30q) 0 (zargs 0 zyx30a, [], (zyh237.1, zyh237.2.1, 0), 0, 0) = true := zall_ok zyg3_ok (k := 21) (a := zbzyx30e) rfl
theorem zyx30 {l : Launch} {D : va_G} {tys : List (ClassId × FieldType)} {o : zO} {z : Nat} (E : zEnv tys) : zKnW l D vwCl tys o z (zXX o z) zTs zprog2 zyx30d :=
  zkn_ml E (fun g => fun _ h => absurd h List.not_mem_nil) (show zget zprog2 263 = some mX8_passes from rfl) rfl (by decide) (by decide) (by decide) (by decide) zyx30e
theorem zyx31e : zrunw zprog2 (zovW []) 100000 zcut0 3 420 kX8_passes (zkinL zyx31q) 0 (zargs 0 zyx31a, [], (zyh240.1, zyh240.2.1, 0), 0, 0) = true := zall_ok zyg3_ok (k := 22) (a := zbzyx31e) rfl
theorem zyx31 {l : Launch} {D : va_G} {tys : List (ClassId × FieldType)} {o : zO} {z : Nat} (E : zEnv tys) : zKnW l D vwCl tys o z (zXX o z) zTs zprog2 zyx31d :=
  zkn_ml E (fun g => fun _ h => absurd h List.not_mem_nil) (show zget zprog2 263 = some mX8_passes from rfl) rfl (by decide) (by decide) (by decide) (by decide) zyx31e
theorem zyx32e : zrunw zprog2 (zovW []) 100000 zcut0 3 420 kX8_passes (zkinL zyx32q) 0 (zargs 0 zyx32a, [], (zyh243.1, zyh243.2.1, 0), 0, 0) = true := zall_ok zyg3_ok (k := 23) (a := zbzyx32e) rfl
theorem zyx32 {l : Launch} {D : va_G} {tys : List (ClassId × FieldType)} {o : zO} {z : Nat} (E : zEnv tys) : zKnW l D vwCl tys o z (zXX o z) zTs zprog2 zyx32d :=
  zkn_ml E (fun g => fun _ h => absurd h List.not_mem_nil) (show zget zprog2 263 = some mX8_passes from rfl) rfl (by decide) (by decide) (by decide) (by decide) zyx32e
theorem zyx33e : zrunw zprog2 (zovW []) 100000 zcut0 3 420 kX8_passes (zkinL zyx33q) 0 (zargs 0 zyx33a, [], (zyh246.1, zyh246.2.1, 0), 0, 0) = true := zall_ok zyg3_ok (k := 24) (a := zbzyx33e) rfl
theorem zyx33 {l : Launch} {D : va_G} {tys : List (ClassId × FieldType)} {o : zO} {z : Nat} (E : zEnv tys) : zKnW l D vwCl tys o z (zXX o z) zTs zprog2 zyx33d :=
  zkn_ml E (fun g => fun _ h => absurd h List.not_mem_nil) (show zget zprog2 263 = some mX8_passes from rfl) rfl (by decide) (by decide) (by decide) (by decide) zyx33e
theorem zyx34e : zrunw zprog2 (zovW []) 100000 zcut0 3 420 kX8_passes (zkinL zyx34q) 0 (zargs 0 zyx34a, [], (zyh249.1, zyh249.2.1, 0), 0, 0) = true := zall_ok zyg3_ok (k := 25) (a := zbzyx34e) rfl
theorem zyx34 {l : Launch} {D : va_G} {tys : List (ClassId × FieldType)} {o : zO} {z : Nat} (E : zEnv tys) : zKnW l D vwCl tys o z (zXX o z) zTs zprog2 zyx34d :=
  zkn_ml E (fun g => fun _ h => absurd h List.not_mem_nil) (show zget zprog2 263 = some mX8_passes from rfl) rfl (by decide) (by decide) (by decide) (by decide) zyx34e
theorem zyx35e : zrunw zprog2 (zovW []) 100000 zcut0 3 420 kX8_passes (zkinL zyx35q) 0 (zargs 0 zyx35a, [], (zyh252.1, zyh252.2.1, 0), 0, 0) = true := zall_ok zyg3_ok (k := 26) (a := zbzyx35e) rfl
theorem zyx35 {l : Launch} {D : va_G} {tys : List (ClassId × FieldType)} {o : zO} {z : Nat} (E : zEnv tys) : zKnW l D vwCl tys o z (zXX o z) zTs zprog2 zyx35d :=
  zkn_ml E (fun g => fun _ h => absurd h List.not_mem_nil) (show zget zprog2 263 = some mX8_passes from rfl) rfl (by decide) (by decide) (by decide) (by decide) zyx35e
theorem zyx36e : zrunw zprog2 (zovW []) 100000 zcut0 3 420 kX8_passes (zkinL zyx36q) 0 (zargs 0 zyx36a, [], (zyh255.1, zyh255.2.1, 0), 0, 0) = true := zall_ok zyg3_ok (k := 27) (a := zbzyx36e) rfl
theorem zyx36 {l : Launch} {D : va_G} {tys : List (ClassId × FieldType)} {o : zO} {z : Nat} (E : zEnv tys) : zKnW l D vwCl tys o z (zXX o z) zTs zprog2 zyx36d :=
  zkn_ml E (fun g => fun _ h => absurd h List.not_mem_nil) (show zget zprog2 263 = some mX8_passes from rfl) rfl (by decide) (by decide) (by decide) (by decide) zyx36e
theorem zyx37e : zrunw zprog2 (zovW []) 100000 zcut0 3 420 kX8_passes (zkinL zyx37q) 0 (zargs 0 zyx37a, [], (zyh258.1, zyh258.2.1, 0), 0, 0) = true := zall_ok zyg3_ok (k := 28) (a := zbzyx37e) rfl
theorem zyx37 {l : Launch} {D : va_G} {tys : List (ClassId × FieldType)} {o : zO} {z : Nat} (E : zEnv tys) : zKnW l D vwCl tys o z (zXX o z) zTs zprog2 zyx37d :=
  zkn_ml E (fun g => fun _ h => absurd h List.not_mem_nil) (show zget zprog2 263 = some mX8_passes from rfl) rfl (by decide) (by decide) (by decide) (by decide) zyx37e
theorem zyx38e : zrunw zprog2 (zovW []) 100000 zcut0 3 420 kX8_passes (zkinL zyx38q) 0 (zargs 0 zyx38a, [], (zyh261.1, zyh261.2.1, 0), 0, 0) = true := zall_ok zyg3_ok (k := 29) (a := zbzyx38e) rfl
theorem zyx38 {l : Launch} {D : va_G} {tys : List (ClassId × FieldType)} {o : zO} {z : Nat} (E : zEnv tys) : zKnW l D vwCl tys o z (zXX o z) zTs zprog2 zyx38d :=
  zkn_ml E (fun g => fun _ h => absurd h List.not_mem_nil) (show zget zprog2 263 = some mX8_passes from rfl) rfl (by decide) (by decide) (by decide) (by decide) zyx38e
theorem zyx39e : zrunw zprog2 (zovW []) 100000 zcut0 3 420 kX8_passes (zkinL zyx39q) 0 (zargs 0 zyx39a, [], (zyh264.1, zyh264.2.1, 0), 0, 0) = true := zall_ok zyg3_ok (k := 30) (a := zbzyx39e) rfl
theorem zyx39 {l : Launch} {D : va_G} {tys : List (ClassId × FieldType)} {o : zO} {z : Nat} (E : zEnv tys) : zKnW l D vwCl tys o z (zXX o z) zTs zprog2 zyx39d :=
  zkn_ml E (fun g => fun _ h => absurd h List.not_mem_nil) (show zget zprog2 263 = some mX8_passes from rfl) rfl (by decide) (by decide) (by decide) (by decide) zyx39e
theorem zyx40e : zrunw zprog2 (zovW []) 100000 zcut0 3 420 kX8_passes (zkinL zyx40q) 0 (zargs 0 zyx40a, [], (zyh267.1, zyh267.2.1, 0), 0, 0) = true := zall_ok zyg3_ok (k := 31) (a := zbzyx40e) rfl
theorem zyx40 {l : Launch} {D : va_G} {tys : List (ClassId × FieldType)} {o : zO} {z : Nat} (E : zEnv tys) : zKnW l D vwCl tys o z (zXX o z) zTs zprog2 zyx40d :=
  zkn_ml E (fun g => fun _ h => absurd h List.not_mem_nil) (show zget zprog2 263 = some mX8_passes from rfl) rfl (by decide) (by decide) (by decide) (by decide) zyx40e
theorem zyx41e : zrunw zprog2 (zovW []) 100000 zcut0 3 420 kX8_passes (zkinL zyx41q) 0 (zargs 0 zyx41a, [], (zyh270.1, zyh270.2.1, 0), 0, 0) = true := zall_ok zyg3_ok (k := 32) (a := zbzyx41e) rfl
theorem zyx41 {l : Launch} {D : va_G} {tys : List (ClassId × FieldType)} {o : zO} {z : Nat} (E : zEnv tys) : zKnW l D vwCl tys o z (zXX o z) zTs zprog2 zyx41d :=
  zkn_ml E (fun g => fun _ h => absurd h List.not_mem_nil) (show zget zprog2 263 = some mX8_passes from rfl) rfl (by decide) (by decide) (by decide) (by decide) zyx41e
theorem zyx42e : zrunw zprog2 (zovW []) 100000 zcut0 3 420 kX8_passes (zkinL zyx42q) 0 (zargs 0 zyx42a, [], (zyh273.1, zyh273.2.1, 0), 0, 0) = true := zall_ok zyg3_ok (k := 33) (a := zbzyx42e) rfl
theorem zyx42 {l : Launch} {D : va_G} {tys : List (ClassId × FieldType)} {o : zO} {z : Nat} (E : zEnv tys) : zKnW l D vwCl tys o z (zXX o z) zTs zprog2 zyx42d :=
  zkn_ml E (fun g => fun _ h => absurd h List.not_mem_nil) (show zget zprog2 263 = some mX8_passes from rfl) rfl (by decide) (by decide) (by decide) (by decide) zyx42e
theorem zyx43e : zrunw zprog2 (zovW []) 100000 zcut0 3 420 kX8_passes (zkinL zyx43q) 0 (zargs 0 zyx43a, [], (zyh276.1, zyh276.2.1, 0), 0, 0) = true := zall_ok zyg3_ok (k := 34) (a := zbzyx43e) rfl
theorem zyx43 {l : Launch} {D : va_G} {tys : List (ClassId × FieldType)} {o : zO} {z : Nat} (E : zEnv tys) : zKnW l D vwCl tys o z (zXX o z) zTs zprog2 zyx43d :=
  zkn_ml E (fun g => fun _ h => absurd h List.not_mem_nil) (show zget zprog2 263 = some mX8_passes from rfl) rfl (by decide) (by decide) (by decide) (by decide) zyx43e
theorem zyx44e : zrunw zprog2 (zovW []) 100000 zcut0 3 420 kX8_passes (zkinL zyx44q) 0 (zargs 0 zyx44a, [], (zyh279.1, zyh279.2.1, 0), 0, 0) = true := zall_ok zyg3_ok (k := 35) (a := zbzyx44e) rfl
theorem zyx44 {l : Launch} {D : va_G} {tys : List (ClassId × FieldType)} {o : zO} {z : Nat} (E : zEnv tys) : zKnW l D vwCl tys o z (zXX o z) zTs zprog2 zyx44d :=
  zkn_ml E (fun g => fun _ h => absurd h List.not_mem_nil) (show zget zprog2 263 = some mX8_passes from rfl) rfl (by decide) (by decide) (by decide) (by decide) zyx44e
theorem zyx45e : zrunw zprog2 (zovW []) 100000 zcut0 3 420 kX8_passes (zkinL zyx45q) 0 (zargs 0 zyx45a, [], (zyh282.1, zyh282.2.1, 0), 0, 0) = true := zall_ok zyg3_ok (k := 36) (a := zbzyx45e) rfl
theorem zyx45 {l : Launch} {D : va_G} {tys : List (ClassId × FieldType)} {o : zO} {z : Nat} (E : zEnv tys) : zKnW l D vwCl tys o z (zXX o z) zTs zprog2 zyx45d :=
  zkn_ml E (fun g => fun _ h => absurd h List.not_mem_nil) (show zget zprog2 263 = some mX8_passes from rfl) rfl (by decide) (by decide) (by decide) (by decide) zyx45e
theorem zyx46e : zrunw zprog2 (zovW []) 100000 zcut0 3 420 kX8_passes (zkinL zyx46q) 0 (zargs 0 zyx46a, [], (zyh285.1, zyh285.2.1, 0), 0, 0) = true := zall_ok zyg3_ok (k := 37) (a := zbzyx46e) rfl
theorem zyx46 {l : Launch} {D : va_G} {tys : List (ClassId × FieldType)} {o : zO} {z : Nat} (E : zEnv tys) : zKnW l D vwCl tys o z (zXX o z) zTs zprog2 zyx46d :=
  zkn_ml E (fun g => fun _ h => absurd h List.not_mem_nil) (show zget zprog2 263 = some mX8_passes from rfl) rfl (by decide) (by decide) (by decide) (by decide) zyx46e
theorem zyx47e : zrunw zprog2 (zovW []) 100000 zcut0 3 420 kX8_passes (zkinL zyx47q) 0 (zargs 0 zyx47a, [], (zyh288.1, zyh288.2.1, 0), 0, 0) = true := zall_ok zyg3_ok (k := 38) (a := zbzyx47e) rfl
theorem zyx47 {l : Launch} {D : va_G} {tys : List (ClassId × FieldType)} {o : zO} {z : Nat} (E : zEnv tys) : zKnW l D vwCl tys o z (zXX o z) zTs zprog2 zyx47d :=
  zkn_ml E (fun g => fun _ h => absurd h List.not_mem_nil) (show zget zprog2 263 = some mX8_passes from rfl) rfl (by decide) (by decide) (by decide) (by decide) zyx47e
theorem zyx48e : zrunw zprog2 (zovW []) 100000 zcut0 3 420 kX8_passes (zkinL zyx48q) 0 (zargs 0 zyx48a, [], (zyh291.1, zyh291.2.1, 0), 0, 0) = true := zall_ok zyg3_ok (k := 39) (a := zbzyx48e) rfl
theorem zyx48 {l : Launch} {D : va_G} {tys : List (ClassId × FieldType)} {o : zO} {z : Nat} (E : zEnv tys) : zKnW l D vwCl tys o z (zXX o z) zTs zprog2 zyx48d :=
  zkn_ml E (fun g => fun _ h => absurd h List.not_mem_nil) (show zget zprog2 263 = some mX8_passes from rfl) rfl (by decide) (by decide) (by decide) (by decide) zyx48e
theorem zyx49e : zrunw zprog2 (zovW [zyx48d]) 100000 (zcutW [] none ((zyx49r, zyh292), 4, 540) []) 4 540 k2X8_thing (zkin zyx49r zyh292) 0 (zargs 0 zyx49a, [], (zyh291.1, zyh291.2.1, 0), 0, 0) = true := zall_ok zyg3_ok (k := 40) (a := zbzyx49e) rfl
theorem zyx49 {l : Launch} {D : va_G} {tys : List (ClassId × FieldType)} {o : zO} {z : Nat} (E : zEnv tys) : zKnW l D vwCl tys o z (zXX o z) zTs zprog2 zyx49d :=
  zkn_mk E (fun g => List.forall_mem_cons.mpr ⟨zyx48 (o := zwith o g) E, fun _ h => absurd h List.not_mem_nil⟩) (show zget zprog2 292 = some m2X8_thing from rfl) rfl (by decide) (by decide) (by decide) (by decide) (G := []) (fun _ h => absurd h List.not_mem_nil) zyx49e
theorem zyx50c : zchkX [(94, 15)] zprog2 (zovW [zyx49d]) 100000 k2X8_product [] [zyx50q] [zyx50q] = true := zall_ok zyg3_ok (k := 41) (a := zbzyx50c) rfl
theorem zyx50k {l : Launch} {D : va_G} {tys : List (ClassId × FieldType)} {o : zO} {z : Nat} (E : zEnv tys) : zPtOk l D vwCl tys o z (zXX o z) zTs m2X8_product zyx50q := zkn_pt E (fun g => List.forall_mem_cons.mpr ⟨zyx49 (o := zwith o g) E, fun _ h => absurd h List.not_mem_nil⟩) (show zget zprog2 265 = some m2X8_product from rfl) (fun _ h => absurd h List.not_mem_nil) zyx50c _ List.mem_cons_self
theorem zyx50e : zrunw zprog2 (zovW [zyx49d]) 100000 (zcutW [(94, 15)] none ((zyx50r, zyh292), 5, 660) [zyx50q]) 5 660 k2X8_product (zkin zyx50r zyh292) 0 (zargs 0 zyx50a, [], (zyh291.1, zyh291.2.1, 0), 0, 0) = true := zall_ok zyg3_ok (k := 42) (a := zbzyx50e) rfl
theorem zyx50 {l : Launch} {D : va_G} {tys : List (ClassId × FieldType)} {o : zO} {z : Nat} (E : zEnv tys) : zKnW l D vwCl tys o z (zXX o z) zTs zprog2 zyx50d :=
  zkn_mk E (fun g => List.forall_mem_cons.mpr ⟨zyx49 (o := zwith o g) E, fun _ h => absurd h List.not_mem_nil⟩) (show zget zprog2 265 = some m2X8_product from rfl) rfl (by decide) (by decide) (by decide) (by decide) (G := [zyx50q]) (List.forall_mem_cons.mpr ⟨zyx50k E, fun _ h => absurd h List.not_mem_nil⟩) zyx50e
theorem zyx51c : zchkX [(94, 15)] zprog2 (zovW [zyx50d]) 100000 kX8_sum [] [zyx51q] [zyx51q] = true := zall_ok zyg3_ok (k := 43) (a := zbzyx51c) rfl
theorem zyx51k {l : Launch} {D : va_G} {tys : List (ClassId × FieldType)} {o : zO} {z : Nat} (E : zEnv tys) : zPtOk l D vwCl tys o z (zXX o z) zTs mX8_sum zyx51q := zkn_pt E (fun g => List.forall_mem_cons.mpr ⟨zyx50 (o := zwith o g) E, fun _ h => absurd h List.not_mem_nil⟩) (show zget zprog2 284 = some mX8_sum from rfl) (fun _ h => absurd h List.not_mem_nil) zyx51c _ List.mem_cons_self
theorem zyx51e : zrunw zprog2 (zovW [zyx50d]) 100000 (zcutW [(94, 15)] none ((zyx51r, zyh292), 6, 780) [zyx51q]) 6 780 kX8_sum (zkin zyx51r zyh292) 0 (zargs 0 zyx51a, [], (zyh291.1, zyh291.2.1, 0), 0, 0) = true := zall_ok zyg3_ok (k := 44) (a := zbzyx51e) rfl
theorem zyx51 {l : Launch} {D : va_G} {tys : List (ClassId × FieldType)} {o : zO} {z : Nat} (E : zEnv tys) : zKnW l D vwCl tys o z (zXX o z) zTs zprog2 zyx51d :=
  zkn_mk E (fun g => List.forall_mem_cons.mpr ⟨zyx50 (o := zwith o g) E, fun _ h => absurd h List.not_mem_nil⟩) (show zget zprog2 284 = some mX8_sum from rfl) rfl (by decide) (by decide) (by decide) (by decide) (G := [zyx51q]) (List.forall_mem_cons.mpr ⟨zyx51k E, fun _ h => absurd h List.not_mem_nil⟩) zyx51e
theorem zyx52e : zrunw zprog2 (zovW [zyx51d, zyx48d]) 100000 (zcutW [] none ((zyx52r, zyh292), 7, 900) []) 7 900 kX8_heldBy (zkin zyx52r zyh292) 0 (zargs 0 zyx52a, [], (zyh291.1, zyh291.2.1, 0), 0, 0) = true := zall_ok zyg3_ok (k := 45) (a := zbzyx52e) rfl
theorem zyx52 {l : Launch} {D : va_G} {tys : List (ClassId × FieldType)} {o : zO} {z : Nat} (E : zEnv tys) : zKnW l D vwCl tys o z (zXX o z) zTs zprog2 zyx52d :=
  zkn_mk E (fun g => List.forall_mem_cons.mpr ⟨zyx51 (o := zwith o g) E, List.forall_mem_cons.mpr ⟨zyx48 (o := zwith o g) E, fun _ h => absurd h List.not_mem_nil⟩⟩) (show zget zprog2 229 = some mX8_heldBy from rfl) rfl (by decide) (by decide) (by decide) (by decide) (G := []) (fun _ h => absurd h List.not_mem_nil) zyx52e
theorem zyx53e : zrunw zprog2 (zovW []) 100000 zcut0 4 480 kX8_oneOf (zkinL zyx53q) 0 (zargs 0 zyx53a, [], (zyh288.1, zyh288.2.1, 0), 0, 0) = true := zall_ok zyg3_ok (k := 46) (a := zbzyx53e) rfl
theorem zyx53 {l : Launch} {D : va_G} {tys : List (ClassId × FieldType)} {o : zO} {z : Nat} (E : zEnv tys) : zKnW l D vwCl tys o z (zXX o z) zTs zprog2 zyx53d :=
  zkn_ml E (fun g => fun _ h => absurd h List.not_mem_nil) (show zget zprog2 260 = some mX8_oneOf from rfl) rfl (by decide) (by decide) (by decide) (by decide) zyx53e
theorem zyx54c0 : zchkX [] zprog2 (zovW [zyx53d]) 100000 kX8_number [] [zyx54q0] [zyx54q0] = true := zall_ok zyg3_ok (k := 47) (a := zbzyx54c0) rfl
theorem zyx54_k0 {l : Launch} {D : va_G} {tys : List (ClassId × FieldType)} {o : zO} {z : Nat} (E : zEnv tys) : zPtOk l D vwCl tys o z (zXX o z) zTs mX8_number zyx54q0 := zkn_pt E (fun g => List.forall_mem_cons.mpr ⟨zyx53 (o := zwith o g) E, fun _ h => absurd h List.not_mem_nil⟩) (show zget zprog2 259 = some mX8_number from rfl) (fun _ h => absurd h List.not_mem_nil) zyx54c0 _ (List.mem_of_getElem? (i := 0) rfl)
theorem zyx54e : zrunw zprog2 (zovW [zyx53d]) 100000 (zcutW [] none ((zyx54r, zyh289), 5, 600) [zyx54q0]) 5 600 kX8_number (zkin zyx54r zyh289) 0 (zargs 0 zyx54a, [], (zyh288.1, zyh288.2.1, 0), 0, 0) = true := zall_ok zyg3_ok (k := 48) (a := zbzyx54e) rfl
theorem zyx54 {l : Launch} {D : va_G} {tys : List (ClassId × FieldType)} {o : zO} {z : Nat} (E : zEnv tys) : zKnW l D vwCl tys o z (zXX o z) zTs zprog2 zyx54d :=
  zkn_mk E (fun g => List.forall_mem_cons.mpr ⟨zyx53 (o := zwith o g) E, fun _ h => absurd h List.not_mem_nil⟩) (show zget zprog2 259 = some mX8_number from rfl) rfl (by decide) (by decide) (by decide) (by decide) (G := [zyx54q0]) (List.forall_mem_cons.mpr ⟨zyx54_k0 E, fun _ h => absurd h List.not_mem_nil⟩) zyx54e
theorem zyx55e : zrunw zprog2 (zovW [zyx52d, zyx49d, zyx48d, zyx54d, zyx47d]) 100000 (zcutW [] none ((zyx55r, zyh289), 8, 1020) []) 8 1020 k2X8_thing (zkin zyx55r zyh289) 0 (zargs 0 zyx55a, [], (zyh288.1, zyh288.2.1, 0), 0, 0) = true := zall_ok zyg3_ok (k := 49) (a := zbzyx55e) rfl
theorem zyx55 {l : Launch} {D : va_G} {tys : List (ClassId × FieldType)} {o : zO} {z : Nat} (E : zEnv tys) : zKnW l D vwCl tys o z (zXX o z) zTs zprog2 zyx55d :=
  zkn_mk E (fun g => List.forall_mem_cons.mpr ⟨zyx52 (o := zwith o g) E, List.forall_mem_cons.mpr ⟨zyx49 (o := zwith o g) E, List.forall_mem_cons.mpr ⟨zyx48 (o := zwith o g) E, List.forall_mem_cons.mpr ⟨zyx54 (o := zwith o g) E, List.forall_mem_cons.mpr ⟨zyx47 (o := zwith o g) E, fun _ h => absurd h List.not_mem_nil⟩⟩⟩⟩⟩) (show zget zprog2 292 = some m2X8_thing from rfl) rfl (by decide) (by decide) (by decide) (by decide) (G := []) (fun _ h => absurd h List.not_mem_nil) zyx55e
theorem zyx56c : zchkX [(94, 15)] zprog2 (zovW [zyx49d, zyx55d]) 100000 k2X8_product [zyx50q] [zyx56q] [zyx56q] = true := zall_ok zyg3_ok (k := 50) (a := zbzyx56c) rfl
theorem zyx56k {l : Launch} {D : va_G} {tys : List (ClassId × FieldType)} {o : zO} {z : Nat} (E : zEnv tys) : zPtOk l D vwCl tys o z (zXX o z) zTs m2X8_product zyx56q := zkn_pt E (fun g => List.forall_mem_cons.mpr ⟨zyx49 (o := zwith o g) E, List.forall_mem_cons.mpr ⟨zyx55 (o := zwith o g) E, fun _ h => absurd h List.not_mem_nil⟩⟩) (show zget zprog2 265 = some m2X8_product from rfl) (List.forall_mem_cons.mpr ⟨zyx50k E, fun _ h => absurd h List.not_mem_nil⟩) zyx56c _ List.mem_cons_self
theorem zyx56e : zrunw zprog2 (zovW [zyx49d, zyx55d]) 100000 (zcutW [(94, 15)] none ((zyx56r, zyh289), 9, 1140) [zyx56q, zyx50q]) 9 1140 k2X8_product (zkin zyx56r zyh289) 0 (zargs 0 zyx56a, [], (zyh288.1, zyh288.2.1, 0), 0, 0) = true := zall_ok zyg3_ok (k := 51) (a := zbzyx56e) rfl
theorem zyx56 {l : Launch} {D : va_G} {tys : List (ClassId × FieldType)} {o : zO} {z : Nat} (E : zEnv tys) : zKnW l D vwCl tys o z (zXX o z) zTs zprog2 zyx56d :=
  zkn_mk E (fun g => List.forall_mem_cons.mpr ⟨zyx49 (o := zwith o g) E, List.forall_mem_cons.mpr ⟨zyx55 (o := zwith o g) E, fun _ h => absurd h List.not_mem_nil⟩⟩) (show zget zprog2 265 = some m2X8_product from rfl) rfl (by decide) (by decide) (by decide) (by decide) (G := [zyx56q, zyx50q]) (List.forall_mem_cons.mpr ⟨zyx56k E, List.forall_mem_cons.mpr ⟨zyx50k E, fun _ h => absurd h List.not_mem_nil⟩⟩) zyx56e
theorem zyx57c : zchkX [(94, 15)] zprog2 (zovW [zyx50d, zyx56d]) 100000 kX8_sum [zyx51q] [zyx57q] [zyx57q] = true := zall_ok zyg3_ok (k := 52) (a := zbzyx57c) rfl
theorem zyx57k {l : Launch} {D : va_G} {tys : List (ClassId × FieldType)} {o : zO} {z : Nat} (E : zEnv tys) : zPtOk l D vwCl tys o z (zXX o z) zTs mX8_sum zyx57q := zkn_pt E (fun g => List.forall_mem_cons.mpr ⟨zyx50 (o := zwith o g) E, List.forall_mem_cons.mpr ⟨zyx56 (o := zwith o g) E, fun _ h => absurd h List.not_mem_nil⟩⟩) (show zget zprog2 284 = some mX8_sum from rfl) (List.forall_mem_cons.mpr ⟨zyx51k E, fun _ h => absurd h List.not_mem_nil⟩) zyx57c _ List.mem_cons_self
theorem zyx57e : zrunw zprog2 (zovW [zyx50d, zyx56d]) 100000 (zcutW [(94, 15)] none ((zyx57r, zyh289), 10, 1260) [zyx57q, zyx51q]) 10 1260 kX8_sum (zkin zyx57r zyh289) 0 (zargs 0 zyx57a, [], (zyh288.1, zyh288.2.1, 0), 0, 0) = true := zall_ok zyg3_ok (k := 53) (a := zbzyx57e) rfl
theorem zyx57 {l : Launch} {D : va_G} {tys : List (ClassId × FieldType)} {o : zO} {z : Nat} (E : zEnv tys) : zKnW l D vwCl tys o z (zXX o z) zTs zprog2 zyx57d :=
  zkn_mk E (fun g => List.forall_mem_cons.mpr ⟨zyx50 (o := zwith o g) E, List.forall_mem_cons.mpr ⟨zyx56 (o := zwith o g) E, fun _ h => absurd h List.not_mem_nil⟩⟩) (show zget zprog2 284 = some mX8_sum from rfl) rfl (by decide) (by decide) (by decide) (by decide) (G := [zyx57q, zyx51q]) (List.forall_mem_cons.mpr ⟨zyx57k E, List.forall_mem_cons.mpr ⟨zyx51k E, fun _ h => absurd h List.not_mem_nil⟩⟩) zyx57e
theorem zyx58e : zrunw zprog2 (zovW [zyx51d, zyx57d, zyx47d]) 100000 (zcutW [] none ((zyx58r, zyh289), 11, 1380) []) 11 1380 kX8_heldBy (zkin zyx58r zyh289) 0 (zargs 0 zyx58a, [], (zyh288.1, zyh288.2.1, 0), 0, 0) = true := zall_ok zyg3_ok (k := 54) (a := zbzyx58e) rfl
theorem zyx58 {l : Launch} {D : va_G} {tys : List (ClassId × FieldType)} {o : zO} {z : Nat} (E : zEnv tys) : zKnW l D vwCl tys o z (zXX o z) zTs zprog2 zyx58d :=
  zkn_mk E (fun g => List.forall_mem_cons.mpr ⟨zyx51 (o := zwith o g) E, List.forall_mem_cons.mpr ⟨zyx57 (o := zwith o g) E, List.forall_mem_cons.mpr ⟨zyx47 (o := zwith o g) E, fun _ h => absurd h List.not_mem_nil⟩⟩⟩) (show zget zprog2 229 = some mX8_heldBy from rfl) rfl (by decide) (by decide) (by decide) (by decide) (G := []) (fun _ h => absurd h List.not_mem_nil) zyx58e
theorem zyx59e : zrunw zprog2 (zovW []) 100000 zcut0 4 480 kX8_oneOf (zkinL zyx59q) 0 (zargs 0 zyx59a, [], (zyh285.1, zyh285.2.1, 0), 0, 0) = true := zall_ok zyg3_ok (k := 55) (a := zbzyx59e) rfl
theorem zyx59 {l : Launch} {D : va_G} {tys : List (ClassId × FieldType)} {o : zO} {z : Nat} (E : zEnv tys) : zKnW l D vwCl tys o z (zXX o z) zTs zprog2 zyx59d :=
  zkn_ml E (fun g => fun _ h => absurd h List.not_mem_nil) (show zget zprog2 260 = some mX8_oneOf from rfl) rfl (by decide) (by decide) (by decide) (by decide) zyx59e
theorem zyx60c0 : zchkX [] zprog2 (zovW [zyx59d]) 100000 kX8_number [] [zyx60q0] [zyx60q0] = true := zall_ok zyg3_ok (k := 56) (a := zbzyx60c0) rfl
theorem zyx60_k0 {l : Launch} {D : va_G} {tys : List (ClassId × FieldType)} {o : zO} {z : Nat} (E : zEnv tys) : zPtOk l D vwCl tys o z (zXX o z) zTs mX8_number zyx60q0 := zkn_pt E (fun g => List.forall_mem_cons.mpr ⟨zyx59 (o := zwith o g) E, fun _ h => absurd h List.not_mem_nil⟩) (show zget zprog2 259 = some mX8_number from rfl) (fun _ h => absurd h List.not_mem_nil) zyx60c0 _ (List.mem_of_getElem? (i := 0) rfl)
theorem zyx60e : zrunw zprog2 (zovW [zyx59d]) 100000 (zcutW [] none ((zyx60r, zyh286), 5, 600) [zyx60q0]) 5 600 kX8_number (zkin zyx60r zyh286) 0 (zargs 0 zyx60a, [], (zyh285.1, zyh285.2.1, 0), 0, 0) = true := zall_ok zyg3_ok (k := 57) (a := zbzyx60e) rfl
theorem zyx60 {l : Launch} {D : va_G} {tys : List (ClassId × FieldType)} {o : zO} {z : Nat} (E : zEnv tys) : zKnW l D vwCl tys o z (zXX o z) zTs zprog2 zyx60d :=
  zkn_mk E (fun g => List.forall_mem_cons.mpr ⟨zyx59 (o := zwith o g) E, fun _ h => absurd h List.not_mem_nil⟩) (show zget zprog2 259 = some mX8_number from rfl) rfl (by decide) (by decide) (by decide) (by decide) (G := [zyx60q0]) (List.forall_mem_cons.mpr ⟨zyx60_k0 E, fun _ h => absurd h List.not_mem_nil⟩) zyx60e
theorem zyx61e : zrunw zprog2 (zovW [zyx58d, zyx55d, zyx47d, zyx60d, zyx46d]) 100000 (zcutW [] none ((zyx61r, zyh286), 12, 1500) []) 12 1500 k2X8_thing (zkin zyx61r zyh286) 0 (zargs 0 zyx61a, [], (zyh285.1, zyh285.2.1, 0), 0, 0) = true := zall_ok zyg3_ok (k := 58) (a := zbzyx61e) rfl
theorem zyx61 {l : Launch} {D : va_G} {tys : List (ClassId × FieldType)} {o : zO} {z : Nat} (E : zEnv tys) : zKnW l D vwCl tys o z (zXX o z) zTs zprog2 zyx61d :=
  zkn_mk E (fun g => List.forall_mem_cons.mpr ⟨zyx58 (o := zwith o g) E, List.forall_mem_cons.mpr ⟨zyx55 (o := zwith o g) E, List.forall_mem_cons.mpr ⟨zyx47 (o := zwith o g) E, List.forall_mem_cons.mpr ⟨zyx60 (o := zwith o g) E, List.forall_mem_cons.mpr ⟨zyx46 (o := zwith o g) E, fun _ h => absurd h List.not_mem_nil⟩⟩⟩⟩⟩) (show zget zprog2 292 = some m2X8_thing from rfl) rfl (by decide) (by decide) (by decide) (by decide) (G := []) (fun _ h => absurd h List.not_mem_nil) zyx61e
theorem zyx62c : zchkX [(94, 15)] zprog2 (zovW [zyx55d, zyx61d]) 100000 k2X8_product [zyx56q, zyx50q] [zyx62q] [zyx62q] = true := zall_ok zyg3_ok (k := 59) (a := zbzyx62c) rfl
theorem zyx62k {l : Launch} {D : va_G} {tys : List (ClassId × FieldType)} {o : zO} {z : Nat} (E : zEnv tys) : zPtOk l D vwCl tys o z (zXX o z) zTs m2X8_product zyx62q := zkn_pt E (fun g => List.forall_mem_cons.mpr ⟨zyx55 (o := zwith o g) E, List.forall_mem_cons.mpr ⟨zyx61 (o := zwith o g) E, fun _ h => absurd h List.not_mem_nil⟩⟩) (show zget zprog2 265 = some m2X8_product from rfl) (List.forall_mem_cons.mpr ⟨zyx56k E, List.forall_mem_cons.mpr ⟨zyx50k E, fun _ h => absurd h List.not_mem_nil⟩⟩) zyx62c _ List.mem_cons_self
theorem zyx62e : zrunw zprog2 (zovW [zyx55d, zyx61d]) 100000 (zcutW [(94, 15)] none ((zyx62r, zyh286), 13, 1620) [zyx62q, zyx56q, zyx50q]) 13 1620 k2X8_product (zkin zyx62r zyh286) 0 (zargs 0 zyx62a, [], (zyh285.1, zyh285.2.1, 0), 0, 0) = true := zall_ok zyg3_ok (k := 60) (a := zbzyx62e) rfl
theorem zyx62 {l : Launch} {D : va_G} {tys : List (ClassId × FieldType)} {o : zO} {z : Nat} (E : zEnv tys) : zKnW l D vwCl tys o z (zXX o z) zTs zprog2 zyx62d :=
  zkn_mk E (fun g => List.forall_mem_cons.mpr ⟨zyx55 (o := zwith o g) E, List.forall_mem_cons.mpr ⟨zyx61 (o := zwith o g) E, fun _ h => absurd h List.not_mem_nil⟩⟩) (show zget zprog2 265 = some m2X8_product from rfl) rfl (by decide) (by decide) (by decide) (by decide) (G := [zyx62q, zyx56q, zyx50q]) (List.forall_mem_cons.mpr ⟨zyx62k E, List.forall_mem_cons.mpr ⟨zyx56k E, List.forall_mem_cons.mpr ⟨zyx50k E, fun _ h => absurd h List.not_mem_nil⟩⟩⟩) zyx62e
theorem zyx63c : zchkX [(94, 15)] zprog2 (zovW [zyx56d, zyx62d]) 100000 kX8_sum [zyx57q, zyx51q] [zyx63q] [zyx63q] = true := zall_ok zyg3_ok (k := 61) (a := zbzyx63c) rfl
theorem zyx63k {l : Launch} {D : va_G} {tys : List (ClassId × FieldType)} {o : zO} {z : Nat} (E : zEnv tys) : zPtOk l D vwCl tys o z (zXX o z) zTs mX8_sum zyx63q := zkn_pt E (fun g => List.forall_mem_cons.mpr ⟨zyx56 (o := zwith o g) E, List.forall_mem_cons.mpr ⟨zyx62 (o := zwith o g) E, fun _ h => absurd h List.not_mem_nil⟩⟩) (show zget zprog2 284 = some mX8_sum from rfl) (List.forall_mem_cons.mpr ⟨zyx57k E, List.forall_mem_cons.mpr ⟨zyx51k E, fun _ h => absurd h List.not_mem_nil⟩⟩) zyx63c _ List.mem_cons_self
theorem zyx63e : zrunw zprog2 (zovW [zyx56d, zyx62d]) 100000 (zcutW [(94, 15)] none ((zyx63r, zyh286), 14, 1740) [zyx63q, zyx57q, zyx51q]) 14 1740 kX8_sum (zkin zyx63r zyh286) 0 (zargs 0 zyx63a, [], (zyh285.1, zyh285.2.1, 0), 0, 0) = true := zall_ok zyg3_ok (k := 62) (a := zbzyx63e) rfl
theorem zyx63 {l : Launch} {D : va_G} {tys : List (ClassId × FieldType)} {o : zO} {z : Nat} (E : zEnv tys) : zKnW l D vwCl tys o z (zXX o z) zTs zprog2 zyx63d :=
  zkn_mk E (fun g => List.forall_mem_cons.mpr ⟨zyx56 (o := zwith o g) E, List.forall_mem_cons.mpr ⟨zyx62 (o := zwith o g) E, fun _ h => absurd h List.not_mem_nil⟩⟩) (show zget zprog2 284 = some mX8_sum from rfl) rfl (by decide) (by decide) (by decide) (by decide) (G := [zyx63q, zyx57q, zyx51q]) (List.forall_mem_cons.mpr ⟨zyx63k E, List.forall_mem_cons.mpr ⟨zyx57k E, List.forall_mem_cons.mpr ⟨zyx51k E, fun _ h => absurd h List.not_mem_nil⟩⟩⟩) zyx63e
theorem zyx64e : zrunw zprog2 (zovW [zyx57d, zyx63d, zyx46d]) 100000 (zcutW [] none ((zyx64r, zyh286), 15, 1860) []) 15 1860 kX8_heldBy (zkin zyx64r zyh286) 0 (zargs 0 zyx64a, [], (zyh285.1, zyh285.2.1, 0), 0, 0) = true := zall_ok zyg3_ok (k := 63) (a := zbzyx64e) rfl
theorem zyx64 {l : Launch} {D : va_G} {tys : List (ClassId × FieldType)} {o : zO} {z : Nat} (E : zEnv tys) : zKnW l D vwCl tys o z (zXX o z) zTs zprog2 zyx64d :=
  zkn_mk E (fun g => List.forall_mem_cons.mpr ⟨zyx57 (o := zwith o g) E, List.forall_mem_cons.mpr ⟨zyx63 (o := zwith o g) E, List.forall_mem_cons.mpr ⟨zyx46 (o := zwith o g) E, fun _ h => absurd h List.not_mem_nil⟩⟩⟩) (show zget zprog2 229 = some mX8_heldBy from rfl) rfl (by decide) (by decide) (by decide) (by decide) (G := []) (fun _ h => absurd h List.not_mem_nil) zyx64e
theorem zyx65e : zrunw zprog2 (zovW []) 100000 zcut0 4 480 kX8_oneOf (zkinL zyx65q) 0 (zargs 0 zyx65a, [], (zyh282.1, zyh282.2.1, 0), 0, 0) = true := zall_ok zyg3_ok (k := 64) (a := zbzyx65e) rfl
theorem zyx65 {l : Launch} {D : va_G} {tys : List (ClassId × FieldType)} {o : zO} {z : Nat} (E : zEnv tys) : zKnW l D vwCl tys o z (zXX o z) zTs zprog2 zyx65d :=
  zkn_ml E (fun g => fun _ h => absurd h List.not_mem_nil) (show zget zprog2 260 = some mX8_oneOf from rfl) rfl (by decide) (by decide) (by decide) (by decide) zyx65e
theorem zyx66c0 : zchkX [] zprog2 (zovW [zyx65d]) 100000 kX8_number [] [zyx66q0] [zyx66q0] = true := zall_ok zyg3_ok (k := 65) (a := zbzyx66c0) rfl
theorem zyx66_k0 {l : Launch} {D : va_G} {tys : List (ClassId × FieldType)} {o : zO} {z : Nat} (E : zEnv tys) : zPtOk l D vwCl tys o z (zXX o z) zTs mX8_number zyx66q0 := zkn_pt E (fun g => List.forall_mem_cons.mpr ⟨zyx65 (o := zwith o g) E, fun _ h => absurd h List.not_mem_nil⟩) (show zget zprog2 259 = some mX8_number from rfl) (fun _ h => absurd h List.not_mem_nil) zyx66c0 _ (List.mem_of_getElem? (i := 0) rfl)
theorem zyx66e : zrunw zprog2 (zovW [zyx65d]) 100000 (zcutW [] none ((zyx66r, zyh283), 5, 600) [zyx66q0]) 5 600 kX8_number (zkin zyx66r zyh283) 0 (zargs 0 zyx66a, [], (zyh282.1, zyh282.2.1, 0), 0, 0) = true := zall_ok zyg3_ok (k := 66) (a := zbzyx66e) rfl
theorem zyx66 {l : Launch} {D : va_G} {tys : List (ClassId × FieldType)} {o : zO} {z : Nat} (E : zEnv tys) : zKnW l D vwCl tys o z (zXX o z) zTs zprog2 zyx66d :=
  zkn_mk E (fun g => List.forall_mem_cons.mpr ⟨zyx65 (o := zwith o g) E, fun _ h => absurd h List.not_mem_nil⟩) (show zget zprog2 259 = some mX8_number from rfl) rfl (by decide) (by decide) (by decide) (by decide) (G := [zyx66q0]) (List.forall_mem_cons.mpr ⟨zyx66_k0 E, fun _ h => absurd h List.not_mem_nil⟩) zyx66e
theorem zyx67e : zrunw zprog2 (zovW [zyx64d, zyx61d, zyx46d, zyx66d, zyx45d]) 100000 (zcutW [] none ((zyx67r, zyh283), 16, 1980) []) 16 1980 k2X8_thing (zkin zyx67r zyh283) 0 (zargs 0 zyx67a, [], (zyh282.1, zyh282.2.1, 0), 0, 0) = true := zall_ok zyg3_ok (k := 67) (a := zbzyx67e) rfl
theorem zyx67 {l : Launch} {D : va_G} {tys : List (ClassId × FieldType)} {o : zO} {z : Nat} (E : zEnv tys) : zKnW l D vwCl tys o z (zXX o z) zTs zprog2 zyx67d :=
  zkn_mk E (fun g => List.forall_mem_cons.mpr ⟨zyx64 (o := zwith o g) E, List.forall_mem_cons.mpr ⟨zyx61 (o := zwith o g) E, List.forall_mem_cons.mpr ⟨zyx46 (o := zwith o g) E, List.forall_mem_cons.mpr ⟨zyx66 (o := zwith o g) E, List.forall_mem_cons.mpr ⟨zyx45 (o := zwith o g) E, fun _ h => absurd h List.not_mem_nil⟩⟩⟩⟩⟩) (show zget zprog2 292 = some m2X8_thing from rfl) rfl (by decide) (by decide) (by decide) (by decide) (G := []) (fun _ h => absurd h List.not_mem_nil) zyx67e
theorem zyx68c : zchkX [(94, 15)] zprog2 (zovW [zyx61d, zyx67d]) 100000 k2X8_product [zyx62q, zyx56q, zyx50q] [zyx68q] [zyx68q] = true := zall_ok zyg3_ok (k := 68) (a := zbzyx68c) rfl
theorem zyx68k {l : Launch} {D : va_G} {tys : List (ClassId × FieldType)} {o : zO} {z : Nat} (E : zEnv tys) : zPtOk l D vwCl tys o z (zXX o z) zTs m2X8_product zyx68q := zkn_pt E (fun g => List.forall_mem_cons.mpr ⟨zyx61 (o := zwith o g) E, List.forall_mem_cons.mpr ⟨zyx67 (o := zwith o g) E, fun _ h => absurd h List.not_mem_nil⟩⟩) (show zget zprog2 265 = some m2X8_product from rfl) (List.forall_mem_cons.mpr ⟨zyx62k E, List.forall_mem_cons.mpr ⟨zyx56k E, List.forall_mem_cons.mpr ⟨zyx50k E, fun _ h => absurd h List.not_mem_nil⟩⟩⟩) zyx68c _ List.mem_cons_self
theorem zyx68e : zrunw zprog2 (zovW [zyx61d, zyx67d]) 100000 (zcutW [(94, 15)] none ((zyx68r, zyh283), 17, 2100) [zyx68q, zyx62q, zyx56q, zyx50q]) 17 2100 k2X8_product (zkin zyx68r zyh283) 0 (zargs 0 zyx68a, [], (zyh282.1, zyh282.2.1, 0), 0, 0) = true := zall_ok zyg3_ok (k := 69) (a := zbzyx68e) rfl
theorem zyx68 {l : Launch} {D : va_G} {tys : List (ClassId × FieldType)} {o : zO} {z : Nat} (E : zEnv tys) : zKnW l D vwCl tys o z (zXX o z) zTs zprog2 zyx68d :=
  zkn_mk E (fun g => List.forall_mem_cons.mpr ⟨zyx61 (o := zwith o g) E, List.forall_mem_cons.mpr ⟨zyx67 (o := zwith o g) E, fun _ h => absurd h List.not_mem_nil⟩⟩) (show zget zprog2 265 = some m2X8_product from rfl) rfl (by decide) (by decide) (by decide) (by decide) (G := [zyx68q, zyx62q, zyx56q, zyx50q]) (List.forall_mem_cons.mpr ⟨zyx68k E, List.forall_mem_cons.mpr ⟨zyx62k E, List.forall_mem_cons.mpr ⟨zyx56k E, List.forall_mem_cons.mpr ⟨zyx50k E, fun _ h => absurd h List.not_mem_nil⟩⟩⟩⟩) zyx68e

