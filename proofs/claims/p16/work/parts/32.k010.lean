def zyv317 : zAV := .inl ((.ofNat 40, .ofNat 40), none)
noncomputable def zyc301 : zC := .inr (8, [zyv114, zyv15, zyv15, zyv15, zyv114, zyv114, zyv114, zyv114, zyv15, zyv114, zyv15, zyv15, zyv121, zyv17, zyv317, zyv35, zyv124, zyv114, zyv114, zyv114, zyv15, zyv36, zyv129, zyv114, zyv15, zyv114, zyv114, zyv15, zyv15, zyv114, zyv114, zyv114, zyv114, zyv114, zyv114, zyv114, zyv114, zyv114, zyv114, zyv15, zyv114, zyv114, zyv114, zyv114, zyv15, zyv15, zyv15, zyv15, zyv114, zyv114, zyv114])
noncomputable def zyr231 : List zC := [zyc60, zyc60, zyc60, zyc69, zyc10, zyc10, zyc10, zyc12, zyc70, zyc8, zyc8, zyc70, zyc8, zyc8, zyc301, zyc52]
noncomputable def zyh1196 : zH := (126, [zyr9, zyr10, zyr11, zyr12, zyr13, zyr231, zyr6, zyr7], 0)
def zyv318 : zAV := .inr (.inr (.inl 94))
def zyv319 : zAV := .inl ((.ofNat 45, .ofNat 62), none)
def zym9 : Nat := 9750459981682161823013815140925344762164019828187247898044165338828361330504195638089528947564597255689892296294894991252982286451541772476651719277507982062256701877281872573108875731140357938095507079933419497033657972202182973736386333513387432336561250408766093619430038275108356102219392754021458805999519768660741551857170704247221768015943507145442922785830195645740748449543480072194129392446089299630544348955627430507353510087294783476847524720596314464038312865582181923970438264048613866444277015966465883664321688068610276147505107629831986868948946568231682301881674654563565539563914219061330608696083779465529397570286696365262279907415927910031117355807013746818747019375498079328922945838354526400885744587347037839421811903854745599079510635818841487975490261098501295092446632038407823211155179692006906222077502581591041564616347473052339625491962156123432856983868467678076452791326322074884981445510074167896552013243717304803433727087796529875457981361723194742211056438222002530694162128193543815756421325104109778831460941640459752325147895064813536867603212559072588523299953692974901956659444647478299162713827540440752165159864061938637926465613327662246059149849205119711077812011456158204029007351283901570669051943964756205164003613307314336350752701828015559797956379082826112546289883214141276867070014541872349677258921775340921242872345082578510646529572746205776856145394014170624142741810222386066799601296460808886651282848326161962498590297710347273522783956026186529530187281357016145663320843169446212330382181346354221972439735866661798036853903848148466421271065181342758991647309220130517450469958267978143742953314279245527818463123515329225931582603490415768520857705602534791666238577121814006729570396128132702218170699837498390129987834127633570005415320036199890944
noncomputable def zyh1197 : zH := (126, [zyr9, zyr10, zyr11, zyr12, zyr13, zyr231, zyr6, zyr7], zym9)
def zyv320 : zAV := .inl ((.ofNat 1, .ofNat 40), none)
noncomputable def zyc302 : zC := .inr (8, [zyv114, zyv15, zyv15, zyv15, zyv114, zyv114, zyv114, zyv114, zyv15, zyv114, zyv15, zyv15, zyv121, zyv17, zyv317, zyv320, zyv241, zyv114, zyv114, zyv114, zyv15, zyv36, zyv129, zyv114, zyv15, zyv114, zyv114, zyv15, zyv15, zyv114, zyv114, zyv114, zyv114, zyv114, zyv114, zyv114, zyv114, zyv114, zyv114, zyv15, zyv114, zyv114, zyv114, zyv114, zyv15, zyv15, zyv15, zyv15, zyv114, zyv114, zyv114])
noncomputable def zyr232 : List zC := [zyc60, zyc60, zyc60, zyc69, zyc10, zyc10, zyc10, zyc12, zyc70, zyc8, zyc8, zyc70, zyc8, zyc8, zyc302, zyc52]
noncomputable def zyh1198 : zH := (126, [zyr9, zyr10, zyr11, zyr12, zyr13, zyr232, zyr6, zyr7], zym9)
noncomputable def zyc303 : zC := .inr (8, [zyv114, zyv15, zyv15, zyv15, zyv114, zyv114, zyv114, zyv114, zyv15, zyv114, zyv15, zyv15, zyv121, zyv17, zyv317, zyv320, zyv124, zyv114, zyv114, zyv114, zyv15, zyv36, zyv129, zyv114, zyv15, zyv114, zyv114, zyv15, zyv15, zyv114, zyv114, zyv114, zyv114, zyv114, zyv114, zyv114, zyv114, zyv114, zyv114, zyv15, zyv114, zyv114, zyv114, zyv114, zyv15, zyv15, zyv15, zyv15, zyv114, zyv114, zyv114])
noncomputable def zyr233 : List zC := [zyc60, zyc60, zyc60, zyc69, zyc10, zyc10, zyc10, zyc12, zyc70, zyc8, zyc8, zyc70, zyc8, zyc8, zyc303, zyc52]
noncomputable def zyh1199 : zH := (126, [zyr9, zyr10, zyr11, zyr12, zyr13, zyr233, zyr6, zyr7], 0)
def zyv321 : zAV := .inl ((.ofNat 41, .ofNat 62), none)
noncomputable def zyh1200 : zH := (126, [zyr9, zyr10, zyr11, zyr12, zyr13, zyr233, zyr6, zyr7], zym9)
def zyv322 : zAV := .inl ((.ofNat 2, .ofNat 40), none)
noncomputable def zyc304 : zC := .inr (8, [zyv114, zyv15, zyv15, zyv15, zyv114, zyv114, zyv114, zyv114, zyv15, zyv114, zyv15, zyv15, zyv121, zyv17, zyv317, zyv322, zyv241, zyv114, zyv114, zyv114, zyv15, zyv36, zyv129, zyv114, zyv15, zyv114, zyv114, zyv15, zyv15, zyv114, zyv114, zyv114, zyv114, zyv114, zyv114, zyv114, zyv114, zyv114, zyv114, zyv15, zyv114, zyv114, zyv114, zyv114, zyv15, zyv15, zyv15, zyv15, zyv114, zyv114, zyv114])
noncomputable def zyr234 : List zC := [zyc60, zyc60, zyc60, zyc69, zyc10, zyc10, zyc10, zyc12, zyc70, zyc8, zyc8, zyc70, zyc8, zyc8, zyc304, zyc52]
noncomputable def zyh1201 : zH := (126, [zyr9, zyr10, zyr11, zyr12, zyr13, zyr234, zyr6, zyr7], zym9)
noncomputable def zyc305 : zC := .inr (8, [zyv114, zyv15, zyv15, zyv15, zyv114, zyv114, zyv114, zyv114, zyv15, zyv114, zyv15, zyv15, zyv121, zyv17, zyv317, zyv322, zyv124, zyv114, zyv114, zyv114, zyv15, zyv36, zyv129, zyv114, zyv15, zyv114, zyv114, zyv15, zyv15, zyv114, zyv114, zyv114, zyv114, zyv114, zyv114, zyv114, zyv114, zyv114, zyv114, zyv15, zyv114, zyv114, zyv114, zyv114, zyv15, zyv15, zyv15, zyv15, zyv114, zyv114, zyv114])
noncomputable def zyr235 : List zC := [zyc60, zyc60, zyc60, zyc69, zyc10, zyc10, zyc10, zyc12, zyc70, zyc8, zyc8, zyc70, zyc8, zyc8, zyc305, zyc52]
noncomputable def zyh1202 : zH := (126, [zyr9, zyr10, zyr11, zyr12, zyr13, zyr235, zyr6, zyr7], 0)
noncomputable def zyh1203 : zH := (126, [zyr9, zyr10, zyr11, zyr12, zyr13, zyr235, zyr6, zyr7], zym9)
def zyv323 : zAV := .inl ((.ofNat 3, .ofNat 40), none)
noncomputable def zyc306 : zC := .inr (8, [zyv114, zyv15, zyv15, zyv15, zyv114, zyv114, zyv114, zyv114, zyv15, zyv114, zyv15, zyv15, zyv121, zyv17, zyv317, zyv323, zyv241, zyv114, zyv114, zyv114, zyv15, zyv36, zyv129, zyv114, zyv15, zyv114, zyv114, zyv15, zyv15, zyv114, zyv114, zyv114, zyv114, zyv114, zyv114, zyv114, zyv114, zyv114, zyv114, zyv15, zyv114, zyv114, zyv114, zyv114, zyv15, zyv15, zyv15, zyv15, zyv114, zyv114, zyv114])
noncomputable def zyr236 : List zC := [zyc60, zyc60, zyc60, zyc69, zyc10, zyc10, zyc10, zyc12, zyc70, zyc8, zyc8, zyc70, zyc8, zyc8, zyc306, zyc52]
noncomputable def zyh1204 : zH := (126, [zyr9, zyr10, zyr11, zyr12, zyr13, zyr236, zyr6, zyr7], zym9)
noncomputable def zyc307 : zC := .inr (8, [zyv114, zyv15, zyv15, zyv15, zyv114, zyv114, zyv114, zyv114, zyv15, zyv114, zyv15, zyv15, zyv121, zyv17, zyv317, zyv323, zyv124, zyv114, zyv114, zyv114, zyv15, zyv36, zyv129, zyv114, zyv15, zyv114, zyv114, zyv15, zyv15, zyv114, zyv114, zyv114, zyv114, zyv114, zyv114, zyv114, zyv114, zyv114, zyv114, zyv15, zyv114, zyv114, zyv114, zyv114, zyv15, zyv15, zyv15, zyv15, zyv114, zyv114, zyv114])
noncomputable def zyr237 : List zC := [zyc60, zyc60, zyc60, zyc69, zyc10, zyc10, zyc10, zyc12, zyc70, zyc8, zyc8, zyc70, zyc8, zyc8, zyc307, zyc52]
noncomputable def zyh1205 : zH := (126, [zyr9, zyr10, zyr11, zyr12, zyr13, zyr237, zyr6, zyr7], 0)
noncomputable def zyh1206 : zH := (126, [zyr9, zyr10, zyr11, zyr12, zyr13, zyr237, zyr6, zyr7], zym9)
def zyv324 : zAV := .inl ((.ofNat 4, .ofNat 40), none)
noncomputable def zyc308 : zC := .inr (8, [zyv114, zyv15, zyv15, zyv15, zyv114, zyv114, zyv114, zyv114, zyv15, zyv114, zyv15, zyv15, zyv121, zyv17, zyv317, zyv324, zyv241, zyv114, zyv114, zyv114, zyv15, zyv36, zyv129, zyv114, zyv15, zyv114, zyv114, zyv15, zyv15, zyv114, zyv114, zyv114, zyv114, zyv114, zyv114, zyv114, zyv114, zyv114, zyv114, zyv15, zyv114, zyv114, zyv114, zyv114, zyv15, zyv15, zyv15, zyv15, zyv114, zyv114, zyv114])
noncomputable def zyr238 : List zC := [zyc60, zyc60, zyc60, zyc69, zyc10, zyc10, zyc10, zyc12, zyc70, zyc8, zyc8, zyc70, zyc8, zyc8, zyc308, zyc52]
noncomputable def zyh1207 : zH := (126, [zyr9, zyr10, zyr11, zyr12, zyr13, zyr238, zyr6, zyr7], zym9)
noncomputable def zyc309 : zC := .inr (8, [zyv114, zyv15, zyv15, zyv15, zyv114, zyv114, zyv114, zyv114, zyv15, zyv114, zyv15, zyv15, zyv121, zyv17, zyv317, zyv324, zyv124, zyv114, zyv114, zyv114, zyv15, zyv36, zyv129, zyv114, zyv15, zyv114, zyv114, zyv15, zyv15, zyv114, zyv114, zyv114, zyv114, zyv114, zyv114, zyv114, zyv114, zyv114, zyv114, zyv15, zyv114, zyv114, zyv114, zyv114, zyv15, zyv15, zyv15, zyv15, zyv114, zyv114, zyv114])
noncomputable def zyr239 : List zC := [zyc60, zyc60, zyc60, zyc69, zyc10, zyc10, zyc10, zyc12, zyc70, zyc8, zyc8, zyc70, zyc8, zyc8, zyc309, zyc52]
noncomputable def zyh1208 : zH := (126, [zyr9, zyr10, zyr11, zyr12, zyr13, zyr239, zyr6, zyr7], 0)
noncomputable def zyh1209 : zH := (126, [zyr9, zyr10, zyr11, zyr12, zyr13, zyr239, zyr6, zyr7], zym9)
def zyv325 : zAV := .inl ((.ofNat 5, .ofNat 40), none)
noncomputable def zyc310 : zC := .inr (8, [zyv114, zyv15, zyv15, zyv15, zyv114, zyv114, zyv114, zyv114, zyv15, zyv114, zyv15, zyv15, zyv121, zyv17, zyv317, zyv325, zyv241, zyv114, zyv114, zyv114, zyv15, zyv36, zyv129, zyv114, zyv15, zyv114, zyv114, zyv15, zyv15, zyv114, zyv114, zyv114, zyv114, zyv114, zyv114, zyv114, zyv114, zyv114, zyv114, zyv15, zyv114, zyv114, zyv114, zyv114, zyv15, zyv15, zyv15, zyv15, zyv114, zyv114, zyv114])
noncomputable def zyr240 : List zC := [zyc60, zyc60, zyc60, zyc69, zyc10, zyc10, zyc10, zyc12, zyc70, zyc8, zyc8, zyc70, zyc8, zyc8, zyc310, zyc52]
noncomputable def zyh1210 : zH := (126, [zyr9, zyr10, zyr11, zyr12, zyr13, zyr240, zyr6, zyr7], zym9)
noncomputable def zyc311 : zC := .inr (8, [zyv114, zyv15, zyv15, zyv15, zyv114, zyv114, zyv114, zyv114, zyv15, zyv114, zyv15, zyv15, zyv121, zyv17, zyv317, zyv325, zyv124, zyv114, zyv114, zyv114, zyv15, zyv36, zyv129, zyv114, zyv15, zyv114, zyv114, zyv15, zyv15, zyv114, zyv114, zyv114, zyv114, zyv114, zyv114, zyv114, zyv114, zyv114, zyv114, zyv15, zyv114, zyv114, zyv114, zyv114, zyv15, zyv15, zyv15, zyv15, zyv114, zyv114, zyv114])
noncomputable def zyr241 : List zC := [zyc60, zyc60, zyc60, zyc69, zyc10, zyc10, zyc10, zyc12, zyc70, zyc8, zyc8, zyc70, zyc8, zyc8, zyc311, zyc52]
noncomputable def zyh1211 : zH := (126, [zyr9, zyr10, zyr11, zyr12, zyr13, zyr241, zyr6, zyr7], 0)
noncomputable def zyh1212 : zH := (126, [zyr9, zyr10, zyr11, zyr12, zyr13, zyr241, zyr6, zyr7], zym9)
def zyv326 : zAV := .inl ((.ofNat 6, .ofNat 40), none)
noncomputable def zyc312 : zC := .inr (8, [zyv114, zyv15, zyv15, zyv15, zyv114, zyv114, zyv114, zyv114, zyv15, zyv114, zyv15, zyv15, zyv121, zyv17, zyv317, zyv326, zyv241, zyv114, zyv114, zyv114, zyv15, zyv36, zyv129, zyv114, zyv15, zyv114, zyv114, zyv15, zyv15, zyv114, zyv114, zyv114, zyv114, zyv114, zyv114, zyv114, zyv114, zyv114, zyv114, zyv15, zyv114, zyv114, zyv114, zyv114, zyv15, zyv15, zyv15, zyv15, zyv114, zyv114, zyv114])
noncomputable def zyr242 : List zC := [zyc60, zyc60, zyc60, zyc69, zyc10, zyc10, zyc10, zyc12, zyc70, zyc8, zyc8, zyc70, zyc8, zyc8, zyc312, zyc52]
noncomputable def zyh1213 : zH := (126, [zyr9, zyr10, zyr11, zyr12, zyr13, zyr242, zyr6, zyr7], zym9)
noncomputable def zyc313 : zC := .inr (8, [zyv114, zyv15, zyv15, zyv15, zyv114, zyv114, zyv114, zyv114, zyv15, zyv114, zyv15, zyv15, zyv121, zyv17, zyv317, zyv326, zyv124, zyv114, zyv114, zyv114, zyv15, zyv36, zyv129, zyv114, zyv15, zyv114, zyv114, zyv15, zyv15, zyv114, zyv114, zyv114, zyv114, zyv114, zyv114, zyv114, zyv114, zyv114, zyv114, zyv15, zyv114, zyv114, zyv114, zyv114, zyv15, zyv15, zyv15, zyv15, zyv114, zyv114, zyv114])
noncomputable def zyr243 : List zC := [zyc60, zyc60, zyc60, zyc69, zyc10, zyc10, zyc10, zyc12, zyc70, zyc8, zyc8, zyc70, zyc8, zyc8, zyc313, zyc52]
noncomputable def zyh1214 : zH := (126, [zyr9, zyr10, zyr11, zyr12, zyr13, zyr243, zyr6, zyr7], 0)
noncomputable def zyh1215 : zH := (126, [zyr9, zyr10, zyr11, zyr12, zyr13, zyr243, zyr6, zyr7], zym9)
def zyv327 : zAV := .inl ((.ofNat 7, .ofNat 40), none)
noncomputable def zyc314 : zC := .inr (8, [zyv114, zyv15, zyv15, zyv15, zyv114, zyv114, zyv114, zyv114, zyv15, zyv114, zyv15, zyv15, zyv121, zyv17, zyv317, zyv327, zyv241, zyv114, zyv114, zyv114, zyv15, zyv36, zyv129, zyv114, zyv15, zyv114, zyv114, zyv15, zyv15, zyv114, zyv114, zyv114, zyv114, zyv114, zyv114, zyv114, zyv114, zyv114, zyv114, zyv15, zyv114, zyv114, zyv114, zyv114, zyv15, zyv15, zyv15, zyv15, zyv114, zyv114, zyv114])
noncomputable def zyr244 : List zC := [zyc60, zyc60, zyc60, zyc69, zyc10, zyc10, zyc10, zyc12, zyc70, zyc8, zyc8, zyc70, zyc8, zyc8, zyc314, zyc52]
noncomputable def zyh1216 : zH := (126, [zyr9, zyr10, zyr11, zyr12, zyr13, zyr244, zyr6, zyr7], zym9)
noncomputable def zyc315 : zC := .inr (8, [zyv114, zyv15, zyv15, zyv15, zyv114, zyv114, zyv114, zyv114, zyv15, zyv114, zyv15, zyv15, zyv121, zyv17, zyv317, zyv327, zyv124, zyv114, zyv114, zyv114, zyv15, zyv36, zyv129, zyv114, zyv15, zyv114, zyv114, zyv15, zyv15, zyv114, zyv114, zyv114, zyv114, zyv114, zyv114, zyv114, zyv114, zyv114, zyv114, zyv15, zyv114, zyv114, zyv114, zyv114, zyv15, zyv15, zyv15, zyv15, zyv114, zyv114, zyv114])
noncomputable def zyr245 : List zC := [zyc60, zyc60, zyc60, zyc69, zyc10, zyc10, zyc10, zyc12, zyc70, zyc8, zyc8, zyc70, zyc8, zyc8, zyc315, zyc52]
noncomputable def zyh1217 : zH := (126, [zyr9, zyr10, zyr11, zyr12, zyr13, zyr245, zyr6, zyr7], 0)
noncomputable def zyh1218 : zH := (126, [zyr9, zyr10, zyr11, zyr12, zyr13, zyr245, zyr6, zyr7], zym9)
def zyv328 : zAV := .inl ((.ofNat 8, .ofNat 40), none)
noncomputable def zyc316 : zC := .inr (8, [zyv114, zyv15, zyv15, zyv15, zyv114, zyv114, zyv114, zyv114, zyv15, zyv114, zyv15, zyv15, zyv121, zyv17, zyv317, zyv328, zyv241, zyv114, zyv114, zyv114, zyv15, zyv36, zyv129, zyv114, zyv15, zyv114, zyv114, zyv15, zyv15, zyv114, zyv114, zyv114, zyv114, zyv114, zyv114, zyv114, zyv114, zyv114, zyv114, zyv15, zyv114, zyv114, zyv114, zyv114, zyv15, zyv15, zyv15, zyv15, zyv114, zyv114, zyv114])
noncomputable def zyr246 : List zC := [zyc60, zyc60, zyc60, zyc69, zyc10, zyc10, zyc10, zyc12, zyc70, zyc8, zyc8, zyc70, zyc8, zyc8, zyc316, zyc52]
noncomputable def zyh1219 : zH := (126, [zyr9, zyr10, zyr11, zyr12, zyr13, zyr246, zyr6, zyr7], zym9)
noncomputable def zyc317 : zC := .inr (8, [zyv114, zyv15, zyv15, zyv15, zyv114, zyv114, zyv114, zyv114, zyv15, zyv114, zyv15, zyv15, zyv121, zyv17, zyv317, zyv328, zyv124, zyv114, zyv114, zyv114, zyv15, zyv36, zyv129, zyv114, zyv15, zyv114, zyv114, zyv15, zyv15, zyv114, zyv114, zyv114, zyv114, zyv114, zyv114, zyv114, zyv114, zyv114, zyv114, zyv15, zyv114, zyv114, zyv114, zyv114, zyv15, zyv15, zyv15, zyv15, zyv114, zyv114, zyv114])
noncomputable def zyr247 : List zC := [zyc60, zyc60, zyc60, zyc69, zyc10, zyc10, zyc10, zyc12, zyc70, zyc8, zyc8, zyc70, zyc8, zyc8, zyc317, zyc52]
noncomputable def zyh1220 : zH := (126, [zyr9, zyr10, zyr11, zyr12, zyr13, zyr247, zyr6, zyr7], 0)
noncomputable def zyh1221 : zH := (126, [zyr9, zyr10, zyr11, zyr12, zyr13, zyr247, zyr6, zyr7], zym9)
def zyv329 : zAV := .inl ((.ofNat 9, .ofNat 40), none)
noncomputable def zyc318 : zC := .inr (8, [zyv114, zyv15, zyv15, zyv15, zyv114, zyv114, zyv114, zyv114, zyv15, zyv114, zyv15, zyv15, zyv121, zyv17, zyv317, zyv329, zyv241, zyv114, zyv114, zyv114, zyv15, zyv36, zyv129, zyv114, zyv15, zyv114, zyv114, zyv15, zyv15, zyv114, zyv114, zyv114, zyv114, zyv114, zyv114, zyv114, zyv114, zyv114, zyv114, zyv15, zyv114, zyv114, zyv114, zyv114, zyv15, zyv15, zyv15, zyv15, zyv114, zyv114, zyv114])
noncomputable def zyr248 : List zC := [zyc60, zyc60, zyc60, zyc69, zyc10, zyc10, zyc10, zyc12, zyc70, zyc8, zyc8, zyc70, zyc8, zyc8, zyc318, zyc52]
noncomputable def zyh1222 : zH := (126, [zyr9, zyr10, zyr11, zyr12, zyr13, zyr248, zyr6, zyr7], zym9)
noncomputable def zyc319 : zC := .inr (8, [zyv114, zyv15, zyv15, zyv15, zyv114, zyv114, zyv114, zyv114, zyv15, zyv114, zyv15, zyv15, zyv121, zyv17, zyv317, zyv329, zyv124, zyv114, zyv114, zyv114, zyv15, zyv36, zyv129, zyv114, zyv15, zyv114, zyv114, zyv15, zyv15, zyv114, zyv114, zyv114, zyv114, zyv114, zyv114, zyv114, zyv114, zyv114, zyv114, zyv15, zyv114, zyv114, zyv114, zyv114, zyv15, zyv15, zyv15, zyv15, zyv114, zyv114, zyv114])
noncomputable def zyr249 : List zC := [zyc60, zyc60, zyc60, zyc69, zyc10, zyc10, zyc10, zyc12, zyc70, zyc8, zyc8, zyc70, zyc8, zyc8, zyc319, zyc52]
noncomputable def zyh1223 : zH := (126, [zyr9, zyr10, zyr11, zyr12, zyr13, zyr249, zyr6, zyr7], 0)
noncomputable def zyh1224 : zH := (126, [zyr9, zyr10, zyr11, zyr12, zyr13, zyr249, zyr6, zyr7], zym9)
def zyv330 : zAV := .inl ((.ofNat 10, .ofNat 40), none)
noncomputable def zyc320 : zC := .inr (8, [zyv114, zyv15, zyv15, zyv15, zyv114, zyv114, zyv114, zyv114, zyv15, zyv114, zyv15, zyv15, zyv121, zyv17, zyv317, zyv330, zyv241, zyv114, zyv114, zyv114, zyv15, zyv36, zyv129, zyv114, zyv15, zyv114, zyv114, zyv15, zyv15, zyv114, zyv114, zyv114, zyv114, zyv114, zyv114, zyv114, zyv114, zyv114, zyv114, zyv15, zyv114, zyv114, zyv114, zyv114, zyv15, zyv15, zyv15, zyv15, zyv114, zyv114, zyv114])
noncomputable def zyr250 : List zC := [zyc60, zyc60, zyc60, zyc69, zyc10, zyc10, zyc10, zyc12, zyc70, zyc8, zyc8, zyc70, zyc8, zyc8, zyc320, zyc52]
noncomputable def zyh1225 : zH := (126, [zyr9, zyr10, zyr11, zyr12, zyr13, zyr250, zyr6, zyr7], zym9)
def zyv331 : zAV := .inl ((.ofNat 11, .ofNat 40), none)
noncomputable def zyc321 : zC := .inr (8, [zyv114, zyv15, zyv15, zyv15, zyv114, zyv114, zyv114, zyv114, zyv15, zyv114, zyv15, zyv15, zyv121, zyv17, zyv317, zyv331, zyv124, zyv114, zyv114, zyv114, zyv15, zyv36, zyv129, zyv114, zyv15, zyv114, zyv114, zyv15, zyv15, zyv114, zyv114, zyv114, zyv114, zyv114, zyv114, zyv114, zyv114, zyv114, zyv114, zyv15, zyv114, zyv114, zyv114, zyv114, zyv15, zyv15, zyv15, zyv15, zyv114, zyv114, zyv114])
noncomputable def zyr251 : List zC := [zyc60, zyc60, zyc60, zyc69, zyc10, zyc10, zyc10, zyc12, zyc70, zyc8, zyc8, zyc70, zyc8, zyc8, zyc321, zyc52]
noncomputable def zyh1226 : zH := (126, [zyr9, zyr10, zyr11, zyr12, zyr13, zyr251, zyr6, zyr7], 0)
noncomputable def zyh1227 : zH := (126, [zyr9, zyr10, zyr11, zyr12, zyr13, zyr251, zyr6, zyr7], zym9)
def zyv332 : zAV := .inl ((.ofNat 12, .ofNat 40), none)
noncomputable def zyc322 : zC := .inr (8, [zyv114, zyv15, zyv15, zyv15, zyv114, zyv114, zyv114, zyv114, zyv15, zyv114, zyv15, zyv15, zyv121, zyv17, zyv317, zyv332, zyv241, zyv114, zyv114, zyv114, zyv15, zyv36, zyv129, zyv114, zyv15, zyv114, zyv114, zyv15, zyv15, zyv114, zyv114, zyv114, zyv114, zyv114, zyv114, zyv114, zyv114, zyv114, zyv114, zyv15, zyv114, zyv114, zyv114, zyv114, zyv15, zyv15, zyv15, zyv15, zyv114, zyv114, zyv114])
noncomputable def zyr252 : List zC := [zyc60, zyc60, zyc60, zyc69, zyc10, zyc10, zyc10, zyc12, zyc70, zyc8, zyc8, zyc70, zyc8, zyc8, zyc322, zyc52]
noncomputable def zyh1228 : zH := (126, [zyr9, zyr10, zyr11, zyr12, zyr13, zyr252, zyr6, zyr7], zym9)
noncomputable def zyc323 : zC := .inr (8, [zyv114, zyv15, zyv15, zyv15, zyv114, zyv114, zyv114, zyv114, zyv15, zyv114, zyv15, zyv15, zyv121, zyv17, zyv317, zyv332, zyv124, zyv114, zyv114, zyv114, zyv15, zyv36, zyv129, zyv114, zyv15, zyv114, zyv114, zyv15, zyv15, zyv114, zyv114, zyv114, zyv114, zyv114, zyv114, zyv114, zyv114, zyv114, zyv114, zyv15, zyv114, zyv114, zyv114, zyv114, zyv15, zyv15, zyv15, zyv15, zyv114, zyv114, zyv114])
noncomputable def zyr253 : List zC := [zyc60, zyc60, zyc60, zyc69, zyc10, zyc10, zyc10, zyc12, zyc70, zyc8, zyc8, zyc70, zyc8, zyc8, zyc323, zyc52]
noncomputable def zyh1229 : zH := (126, [zyr9, zyr10, zyr11, zyr12, zyr13, zyr253, zyr6, zyr7], 0)
noncomputable def zyh1230 : zH := (126, [zyr9, zyr10, zyr11, zyr12, zyr13, zyr253, zyr6, zyr7], zym9)
def zyv333 : zAV := .inl ((.ofNat 13, .ofNat 40), none)
noncomputable def zyc324 : zC := .inr (8, [zyv114, zyv15, zyv15, zyv15, zyv114, zyv114, zyv114, zyv114, zyv15, zyv114, zyv15, zyv15, zyv121, zyv17, zyv317, zyv333, zyv241, zyv114, zyv114, zyv114, zyv15, zyv36, zyv129, zyv114, zyv15, zyv114, zyv114, zyv15, zyv15, zyv114, zyv114, zyv114, zyv114, zyv114, zyv114, zyv114, zyv114, zyv114, zyv114, zyv15, zyv114, zyv114, zyv114, zyv114, zyv15, zyv15, zyv15, zyv15, zyv114, zyv114, zyv114])
noncomputable def zyr254 : List zC := [zyc60, zyc60, zyc60, zyc69, zyc10, zyc10, zyc10, zyc12, zyc70, zyc8, zyc8, zyc70, zyc8, zyc8, zyc324, zyc52]
noncomputable def zyh1231 : zH := (126, [zyr9, zyr10, zyr11, zyr12, zyr13, zyr254, zyr6, zyr7], zym9)
noncomputable def zyc325 : zC := .inr (8, [zyv114, zyv15, zyv15, zyv15, zyv114, zyv114, zyv114, zyv114, zyv15, zyv114, zyv15, zyv15, zyv121, zyv17, zyv317, zyv333, zyv124, zyv114, zyv114, zyv114, zyv15, zyv36, zyv129, zyv114, zyv15, zyv114, zyv114, zyv15, zyv15, zyv114, zyv114, zyv114, zyv114, zyv114, zyv114, zyv114, zyv114, zyv114, zyv114, zyv15, zyv114, zyv114, zyv114, zyv114, zyv15, zyv15, zyv15, zyv15, zyv114, zyv114, zyv114])
noncomputable def zyr255 : List zC := [zyc60, zyc60, zyc60, zyc69, zyc10, zyc10, zyc10, zyc12, zyc70, zyc8, zyc8, zyc70, zyc8, zyc8, zyc325, zyc52]
noncomputable def zyh1232 : zH := (126, [zyr9, zyr10, zyr11, zyr12, zyr13, zyr255, zyr6, zyr7], 0)
noncomputable def zyh1233 : zH := (126, [zyr9, zyr10, zyr11, zyr12, zyr13, zyr255, zyr6, zyr7], zym9)
def zyv334 : zAV := .inl ((.ofNat 14, .ofNat 40), none)
noncomputable def zyc326 : zC := .inr (8, [zyv114, zyv15, zyv15, zyv15, zyv114, zyv114, zyv114, zyv114, zyv15, zyv114, zyv15, zyv15, zyv121, zyv17, zyv317, zyv334, zyv241, zyv114, zyv114, zyv114, zyv15, zyv36, zyv129, zyv114, zyv15, zyv114, zyv114, zyv15, zyv15, zyv114, zyv114, zyv114, zyv114, zyv114, zyv114, zyv114, zyv114, zyv114, zyv114, zyv15, zyv114, zyv114, zyv114, zyv114, zyv15, zyv15, zyv15, zyv15, zyv114, zyv114, zyv114])
noncomputable def zyr256 : List zC := [zyc60, zyc60, zyc60, zyc69, zyc10, zyc10, zyc10, zyc12, zyc70, zyc8, zyc8, zyc70, zyc8, zyc8, zyc326, zyc52]
noncomputable def zyh1234 : zH := (126, [zyr9, zyr10, zyr11, zyr12, zyr13, zyr256, zyr6, zyr7], zym9)
noncomputable def zyc327 : zC := .inr (8, [zyv114, zyv15, zyv15, zyv15, zyv114, zyv114, zyv114, zyv114, zyv15, zyv114, zyv15, zyv15, zyv121, zyv17, zyv317, zyv334, zyv124, zyv114, zyv114, zyv114, zyv15, zyv36, zyv129, zyv114, zyv15, zyv114, zyv114, zyv15, zyv15, zyv114, zyv114, zyv114, zyv114, zyv114, zyv114, zyv114, zyv114, zyv114, zyv114, zyv15, zyv114, zyv114, zyv114, zyv114, zyv15, zyv15, zyv15, zyv15, zyv114, zyv114, zyv114])
noncomputable def zyr257 : List zC := [zyc60, zyc60, zyc60, zyc69, zyc10, zyc10, zyc10, zyc12, zyc70, zyc8, zyc8, zyc70, zyc8, zyc8, zyc327, zyc52]
noncomputable def zyh1235 : zH := (126, [zyr9, zyr10, zyr11, zyr12, zyr13, zyr257, zyr6, zyr7], 0)
noncomputable def zyh1236 : zH := (126, [zyr9, zyr10, zyr11, zyr12, zyr13, zyr257, zyr6, zyr7], zym9)
def zyv335 : zAV := .inl ((.ofNat 15, .ofNat 40), none)
noncomputable def zyc328 : zC := .inr (8, [zyv114, zyv15, zyv15, zyv15, zyv114, zyv114, zyv114, zyv114, zyv15, zyv114, zyv15, zyv15, zyv121, zyv17, zyv317, zyv335, zyv241, zyv114, zyv114, zyv114, zyv15, zyv36, zyv129, zyv114, zyv15, zyv114, zyv114, zyv15, zyv15, zyv114, zyv114, zyv114, zyv114, zyv114, zyv114, zyv114, zyv114, zyv114, zyv114, zyv15, zyv114, zyv114, zyv114, zyv114, zyv15, zyv15, zyv15, zyv15, zyv114, zyv114, zyv114])
noncomputable def zyr258 : List zC := [zyc60, zyc60, zyc60, zyc69, zyc10, zyc10, zyc10, zyc12, zyc70, zyc8, zyc8, zyc70, zyc8, zyc8, zyc328, zyc52]
noncomputable def zyh1237 : zH := (126, [zyr9, zyr10, zyr11, zyr12, zyr13, zyr258, zyr6, zyr7], zym9)
noncomputable def zyc329 : zC := .inr (8, [zyv114, zyv15, zyv15, zyv15, zyv114, zyv114, zyv114, zyv114, zyv15, zyv114, zyv15, zyv15, zyv121, zyv17, zyv317, zyv335, zyv124, zyv114, zyv114, zyv114, zyv15, zyv36, zyv129, zyv114, zyv15, zyv114, zyv114, zyv15, zyv15, zyv114, zyv114, zyv114, zyv114, zyv114, zyv114, zyv114, zyv114, zyv114, zyv114, zyv15, zyv114, zyv114, zyv114, zyv114, zyv15, zyv15, zyv15, zyv15, zyv114, zyv114, zyv114])
noncomputable def zyr259 : List zC := [zyc60, zyc60, zyc60, zyc69, zyc10, zyc10, zyc10, zyc12, zyc70, zyc8, zyc8, zyc70, zyc8, zyc8, zyc329, zyc52]
noncomputable def zyh1238 : zH := (126, [zyr9, zyr10, zyr11, zyr12, zyr13, zyr259, zyr6, zyr7], 0)
noncomputable def zyh1239 : zH := (126, [zyr9, zyr10, zyr11, zyr12, zyr13, zyr259, zyr6, zyr7], zym9)
def zyv336 : zAV := .inl ((.ofNat 16, .ofNat 40), none)
noncomputable def zyc330 : zC := .inr (8, [zyv114, zyv15, zyv15, zyv15, zyv114, zyv114, zyv114, zyv114, zyv15, zyv114, zyv15, zyv15, zyv121, zyv17, zyv317, zyv336, zyv241, zyv114, zyv114, zyv114, zyv15, zyv36, zyv129, zyv114, zyv15, zyv114, zyv114, zyv15, zyv15, zyv114, zyv114, zyv114, zyv114, zyv114, zyv114, zyv114, zyv114, zyv114, zyv114, zyv15, zyv114, zyv114, zyv114, zyv114, zyv15, zyv15, zyv15, zyv15, zyv114, zyv114, zyv114])
noncomputable def zyr260 : List zC := [zyc60, zyc60, zyc60, zyc69, zyc10, zyc10, zyc10, zyc12, zyc70, zyc8, zyc8, zyc70, zyc8, zyc8, zyc330, zyc52]
noncomputable def zyh1240 : zH := (126, [zyr9, zyr10, zyr11, zyr12, zyr13, zyr260, zyr6, zyr7], zym9)
noncomputable def zyc331 : zC := .inr (8, [zyv114, zyv15, zyv15, zyv15, zyv114, zyv114, zyv114, zyv114, zyv15, zyv114, zyv15, zyv15, zyv121, zyv17, zyv317, zyv336, zyv124, zyv114, zyv114, zyv114, zyv15, zyv36, zyv129, zyv114, zyv15, zyv114, zyv114, zyv15, zyv15, zyv114, zyv114, zyv114, zyv114, zyv114, zyv114, zyv114, zyv114, zyv114, zyv114, zyv15, zyv114, zyv114, zyv114, zyv114, zyv15, zyv15, zyv15, zyv15, zyv114, zyv114, zyv114])
noncomputable def zyr261 : List zC := [zyc60, zyc60, zyc60, zyc69, zyc10, zyc10, zyc10, zyc12, zyc70, zyc8, zyc8, zyc70, zyc8, zyc8, zyc331, zyc52]
noncomputable def zyh1241 : zH := (126, [zyr9, zyr10, zyr11, zyr12, zyr13, zyr261, zyr6, zyr7], 0)
noncomputable def zyh1242 : zH := (126, [zyr9, zyr10, zyr11, zyr12, zyr13, zyr261, zyr6, zyr7], zym9)
def zyv337 : zAV := .inl ((.ofNat 17, .ofNat 40), none)
noncomputable def zyc332 : zC := .inr (8, [zyv114, zyv15, zyv15, zyv15, zyv114, zyv114, zyv114, zyv114, zyv15, zyv114, zyv15, zyv15, zyv121, zyv17, zyv317, zyv337, zyv241, zyv114, zyv114, zyv114, zyv15, zyv36, zyv129, zyv114, zyv15, zyv114, zyv114, zyv15, zyv15, zyv114, zyv114, zyv114, zyv114, zyv114, zyv114, zyv114, zyv114, zyv114, zyv114, zyv15, zyv114, zyv114, zyv114, zyv114, zyv15, zyv15, zyv15, zyv15, zyv114, zyv114, zyv114])
noncomputable def zyr262 : List zC := [zyc60, zyc60, zyc60, zyc69, zyc10, zyc10, zyc10, zyc12, zyc70, zyc8, zyc8, zyc70, zyc8, zyc8, zyc332, zyc52]
noncomputable def zyh1243 : zH := (126, [zyr9, zyr10, zyr11, zyr12, zyr13, zyr262, zyr6, zyr7], zym9)
noncomputable def zyc333 : zC := .inr (8, [zyv114, zyv15, zyv15, zyv15, zyv114, zyv114, zyv114, zyv114, zyv15, zyv114, zyv15, zyv15, zyv121, zyv17, zyv317, zyv337, zyv124, zyv114, zyv114, zyv114, zyv15, zyv36, zyv129, zyv114, zyv15, zyv114, zyv114, zyv15, zyv15, zyv114, zyv114, zyv114, zyv114, zyv114, zyv114, zyv114, zyv114, zyv114, zyv114, zyv15, zyv114, zyv114, zyv114, zyv114, zyv15, zyv15, zyv15, zyv15, zyv114, zyv114, zyv114])
noncomputable def zyr263 : List zC := [zyc60, zyc60, zyc60, zyc69, zyc10, zyc10, zyc10, zyc12, zyc70, zyc8, zyc8, zyc70, zyc8, zyc8, zyc333, zyc52]
noncomputable def zyh1244 : zH := (126, [zyr9, zyr10, zyr11, zyr12, zyr13, zyr263, zyr6, zyr7], 0)
noncomputable def zyh1245 : zH := (126, [zyr9, zyr10, zyr11, zyr12, zyr13, zyr263, zyr6, zyr7], zym9)
def zyv338 : zAV := .inl ((.ofNat 18, .ofNat 40), none)
noncomputable def zyc334 : zC := .inr (8, [zyv114, zyv15, zyv15, zyv15, zyv114, zyv114, zyv114, zyv114, zyv15, zyv114, zyv15, zyv15, zyv121, zyv17, zyv317, zyv338, zyv241, zyv114, zyv114, zyv114, zyv15, zyv36, zyv129, zyv114, zyv15, zyv114, zyv114, zyv15, zyv15, zyv114, zyv114, zyv114, zyv114, zyv114, zyv114, zyv114, zyv114, zyv114, zyv114, zyv15, zyv114, zyv114, zyv114, zyv114, zyv15, zyv15, zyv15, zyv15, zyv114, zyv114, zyv114])
noncomputable def zyr264 : List zC := [zyc60, zyc60, zyc60, zyc69, zyc10, zyc10, zyc10, zyc12, zyc70, zyc8, zyc8, zyc70, zyc8, zyc8, zyc334, zyc52]
noncomputable def zyh1246 : zH := (126, [zyr9, zyr10, zyr11, zyr12, zyr13, zyr264, zyr6, zyr7], zym9)
noncomputable def zyc335 : zC := .inr (8, [zyv114, zyv15, zyv15, zyv15, zyv114, zyv114, zyv114, zyv114, zyv15, zyv114, zyv15, zyv15, zyv121, zyv17, zyv317, zyv338, zyv124, zyv114, zyv114, zyv114, zyv15, zyv36, zyv129, zyv114, zyv15, zyv114, zyv114, zyv15, zyv15, zyv114, zyv114, zyv114, zyv114, zyv114, zyv114, zyv114, zyv114, zyv114, zyv114, zyv15, zyv114, zyv114, zyv114, zyv114, zyv15, zyv15, zyv15, zyv15, zyv114, zyv114, zyv114])
noncomputable def zyr265 : List zC := [zyc60, zyc60, zyc60, zyc69, zyc10, zyc10, zyc10, zyc12, zyc70, zyc8, zyc8, zyc70, zyc8, zyc8, zyc335, zyc52]
noncomputable def zyh1247 : zH := (126, [zyr9, zyr10, zyr11, zyr12, zyr13, zyr265, zyr6, zyr7], 0)
noncomputable def zyh1248 : zH := (126, [zyr9, zyr10, zyr11, zyr12, zyr13, zyr265, zyr6, zyr7], zym9)
def zyv339 : zAV := .inl ((.ofNat 19, .ofNat 40), none)
noncomputable def zyc336 : zC := .inr (8, [zyv114, zyv15, zyv15, zyv15, zyv114, zyv114, zyv114, zyv114, zyv15, zyv114, zyv15, zyv15, zyv121, zyv17, zyv317, zyv339, zyv241, zyv114, zyv114, zyv114, zyv15, zyv36, zyv129, zyv114, zyv15, zyv114, zyv114, zyv15, zyv15, zyv114, zyv114, zyv114, zyv114, zyv114, zyv114, zyv114, zyv114, zyv114, zyv114, zyv15, zyv114, zyv114, zyv114, zyv114, zyv15, zyv15, zyv15, zyv15, zyv114, zyv114, zyv114])
noncomputable def zyr266 : List zC := [zyc60, zyc60, zyc60, zyc69, zyc10, zyc10, zyc10, zyc12, zyc70, zyc8, zyc8, zyc70, zyc8, zyc8, zyc336, zyc52]
noncomputable def zyh1249 : zH := (126, [zyr9, zyr10, zyr11, zyr12, zyr13, zyr266, zyr6, zyr7], zym9)
noncomputable def zyc337 : zC := .inr (8, [zyv114, zyv15, zyv15, zyv15, zyv114, zyv114, zyv114, zyv114, zyv15, zyv114, zyv15, zyv15, zyv121, zyv17, zyv317, zyv339, zyv124, zyv114, zyv114, zyv114, zyv15, zyv36, zyv129, zyv114, zyv15, zyv114, zyv114, zyv15, zyv15, zyv114, zyv114, zyv114, zyv114, zyv114, zyv114, zyv114, zyv114, zyv114, zyv114, zyv15, zyv114, zyv114, zyv114, zyv114, zyv15, zyv15, zyv15, zyv15, zyv114, zyv114, zyv114])
noncomputable def zyr267 : List zC := [zyc60, zyc60, zyc60, zyc69, zyc10, zyc10, zyc10, zyc12, zyc70, zyc8, zyc8, zyc70, zyc8, zyc8, zyc337, zyc52]
noncomputable def zyh1250 : zH := (126, [zyr9, zyr10, zyr11, zyr12, zyr13, zyr267, zyr6, zyr7], 0)
noncomputable def zyh1251 : zH := (126, [zyr9, zyr10, zyr11, zyr12, zyr13, zyr267, zyr6, zyr7], zym9)
def zyv340 : zAV := .inl ((.ofNat 20, .ofNat 40), none)
noncomputable def zyc338 : zC := .inr (8, [zyv114, zyv15, zyv15, zyv15, zyv114, zyv114, zyv114, zyv114, zyv15, zyv114, zyv15, zyv15, zyv121, zyv17, zyv317, zyv340, zyv241, zyv114, zyv114, zyv114, zyv15, zyv36, zyv129, zyv114, zyv15, zyv114, zyv114, zyv15, zyv15, zyv114, zyv114, zyv114, zyv114, zyv114, zyv114, zyv114, zyv114, zyv114, zyv114, zyv15, zyv114, zyv114, zyv114, zyv114, zyv15, zyv15, zyv15, zyv15, zyv114, zyv114, zyv114])
noncomputable def zyr268 : List zC := [zyc60, zyc60, zyc60, zyc69, zyc10, zyc10, zyc10, zyc12, zyc70, zyc8, zyc8, zyc70, zyc8, zyc8, zyc338, zyc52]
noncomputable def zyh1252 : zH := (126, [zyr9, zyr10, zyr11, zyr12, zyr13, zyr268, zyr6, zyr7], zym9)
noncomputable def zyc339 : zC := .inr (8, [zyv114, zyv15, zyv15, zyv15, zyv114, zyv114, zyv114, zyv114, zyv15, zyv114, zyv15, zyv15, zyv121, zyv17, zyv317, zyv340, zyv124, zyv114, zyv114, zyv114, zyv15, zyv36, zyv129, zyv114, zyv15, zyv114, zyv114, zyv15, zyv15, zyv114, zyv114, zyv114, zyv114, zyv114, zyv114, zyv114, zyv114, zyv114, zyv114, zyv15, zyv114, zyv114, zyv114, zyv114, zyv15, zyv15, zyv15, zyv15, zyv114, zyv114, zyv114])
noncomputable def zyr269 : List zC := [zyc60, zyc60, zyc60, zyc69, zyc10, zyc10, zyc10, zyc12, zyc70, zyc8, zyc8, zyc70, zyc8, zyc8, zyc339, zyc52]
noncomputable def zyh1253 : zH := (126, [zyr9, zyr10, zyr11, zyr12, zyr13, zyr269, zyr6, zyr7], 0)
noncomputable def zyh1254 : zH := (126, [zyr9, zyr10, zyr11, zyr12, zyr13, zyr269, zyr6, zyr7], zym9)
def zyv341 : zAV := .inl ((.ofNat 21, .ofNat 40), none)
noncomputable def zyc340 : zC := .inr (8, [zyv114, zyv15, zyv15, zyv15, zyv114, zyv114, zyv114, zyv114, zyv15, zyv114, zyv15, zyv15, zyv121, zyv17, zyv317, zyv341, zyv241, zyv114, zyv114, zyv114, zyv15, zyv36, zyv129, zyv114, zyv15, zyv114, zyv114, zyv15, zyv15, zyv114, zyv114, zyv114, zyv114, zyv114, zyv114, zyv114, zyv114, zyv114, zyv114, zyv15, zyv114, zyv114, zyv114, zyv114, zyv15, zyv15, zyv15, zyv15, zyv114, zyv114, zyv114])
noncomputable def zyr270 : List zC := [zyc60, zyc60, zyc60, zyc69, zyc10, zyc10, zyc10, zyc12, zyc70, zyc8, zyc8, zyc70, zyc8, zyc8, zyc340, zyc52]
noncomputable def zyh1255 : zH := (126, [zyr9, zyr10, zyr11, zyr12, zyr13, zyr270, zyr6, zyr7], zym9)
noncomputable def zyc341 : zC := .inr (8, [zyv114, zyv15, zyv15, zyv15, zyv114, zyv114, zyv114, zyv114, zyv15, zyv114, zyv15, zyv15, zyv121, zyv17, zyv317, zyv341, zyv124, zyv114, zyv114, zyv114, zyv15, zyv36, zyv129, zyv114, zyv15, zyv114, zyv114, zyv15, zyv15, zyv114, zyv114, zyv114, zyv114, zyv114, zyv114, zyv114, zyv114, zyv114, zyv114, zyv15, zyv114, zyv114, zyv114, zyv114, zyv15, zyv15, zyv15, zyv15, zyv114, zyv114, zyv114])
noncomputable def zyr271 : List zC := [zyc60, zyc60, zyc60, zyc69, zyc10, zyc10, zyc10, zyc12, zyc70, zyc8, zyc8, zyc70, zyc8, zyc8, zyc341, zyc52]
noncomputable def zyh1256 : zH := (126, [zyr9, zyr10, zyr11, zyr12, zyr13, zyr271, zyr6, zyr7], 0)
noncomputable def zyh1257 : zH := (126, [zyr9, zyr10, zyr11, zyr12, zyr13, zyr271, zyr6, zyr7], zym9)
def zyv342 : zAV := .inl ((.ofNat 22, .ofNat 40), none)
noncomputable def zyc342 : zC := .inr (8, [zyv114, zyv15, zyv15, zyv15, zyv114, zyv114, zyv114, zyv114, zyv15, zyv114, zyv15, zyv15, zyv121, zyv17, zyv317, zyv342, zyv241, zyv114, zyv114, zyv114, zyv15, zyv36, zyv129, zyv114, zyv15, zyv114, zyv114, zyv15, zyv15, zyv114, zyv114, zyv114, zyv114, zyv114, zyv114, zyv114, zyv114, zyv114, zyv114, zyv15, zyv114, zyv114, zyv114, zyv114, zyv15, zyv15, zyv15, zyv15, zyv114, zyv114, zyv114])
noncomputable def zyr272 : List zC := [zyc60, zyc60, zyc60, zyc69, zyc10, zyc10, zyc10, zyc12, zyc70, zyc8, zyc8, zyc70, zyc8, zyc8, zyc342, zyc52]
noncomputable def zyh1258 : zH := (126, [zyr9, zyr10, zyr11, zyr12, zyr13, zyr272, zyr6, zyr7], zym9)
noncomputable def zyc343 : zC := .inr (8, [zyv114, zyv15, zyv15, zyv15, zyv114, zyv114, zyv114, zyv114, zyv15, zyv114, zyv15, zyv15, zyv121, zyv17, zyv317, zyv342, zyv124, zyv114, zyv114, zyv114, zyv15, zyv36, zyv129, zyv114, zyv15, zyv114, zyv114, zyv15, zyv15, zyv114, zyv114, zyv114, zyv114, zyv114, zyv114, zyv114, zyv114, zyv114, zyv114, zyv15, zyv114, zyv114, zyv114, zyv114, zyv15, zyv15, zyv15, zyv15, zyv114, zyv114, zyv114])
noncomputable def zyr273 : List zC := [zyc60, zyc60, zyc60, zyc69, zyc10, zyc10, zyc10, zyc12, zyc70, zyc8, zyc8, zyc70, zyc8, zyc8, zyc343, zyc52]
noncomputable def zyh1259 : zH := (126, [zyr9, zyr10, zyr11, zyr12, zyr13, zyr273, zyr6, zyr7], 0)
noncomputable def zyh1260 : zH := (126, [zyr9, zyr10, zyr11, zyr12, zyr13, zyr273, zyr6, zyr7], zym9)
def zyv343 : zAV := .inl ((.ofNat 23, .ofNat 40), none)
noncomputable def zyc344 : zC := .inr (8, [zyv114, zyv15, zyv15, zyv15, zyv114, zyv114, zyv114, zyv114, zyv15, zyv114, zyv15, zyv15, zyv121, zyv17, zyv317, zyv343, zyv241, zyv114, zyv114, zyv114, zyv15, zyv36, zyv129, zyv114, zyv15, zyv114, zyv114, zyv15, zyv15, zyv114, zyv114, zyv114, zyv114, zyv114, zyv114, zyv114, zyv114, zyv114, zyv114, zyv15, zyv114, zyv114, zyv114, zyv114, zyv15, zyv15, zyv15, zyv15, zyv114, zyv114, zyv114])
noncomputable def zyr274 : List zC := [zyc60, zyc60, zyc60, zyc69, zyc10, zyc10, zyc10, zyc12, zyc70, zyc8, zyc8, zyc70, zyc8, zyc8, zyc344, zyc52]
noncomputable def zyh1261 : zH := (126, [zyr9, zyr10, zyr11, zyr12, zyr13, zyr274, zyr6, zyr7], zym9)
noncomputable def zyc345 : zC := .inr (8, [zyv114, zyv15, zyv15, zyv15, zyv114, zyv114, zyv114, zyv114, zyv15, zyv114, zyv15, zyv15, zyv121, zyv17, zyv317, zyv343, zyv124, zyv114, zyv114, zyv114, zyv15, zyv36, zyv129, zyv114, zyv15, zyv114, zyv114, zyv15, zyv15, zyv114, zyv114, zyv114, zyv114, zyv114, zyv114, zyv114, zyv114, zyv114, zyv114, zyv15, zyv114, zyv114, zyv114, zyv114, zyv15, zyv15, zyv15, zyv15, zyv114, zyv114, zyv114])
noncomputable def zyr275 : List zC := [zyc60, zyc60, zyc60, zyc69, zyc10, zyc10, zyc10, zyc12, zyc70, zyc8, zyc8, zyc70, zyc8, zyc8, zyc345, zyc52]
noncomputable def zyh1262 : zH := (126, [zyr9, zyr10, zyr11, zyr12, zyr13, zyr275, zyr6, zyr7], 0)
noncomputable def zyh1263 : zH := (126, [zyr9, zyr10, zyr11, zyr12, zyr13, zyr275, zyr6, zyr7], zym9)
def zyv344 : zAV := .inl ((.ofNat 24, .ofNat 40), none)
noncomputable def zyc346 : zC := .inr (8, [zyv114, zyv15, zyv15, zyv15, zyv114, zyv114, zyv114, zyv114, zyv15, zyv114, zyv15, zyv15, zyv121, zyv17, zyv317, zyv344, zyv241, zyv114, zyv114, zyv114, zyv15, zyv36, zyv129, zyv114, zyv15, zyv114, zyv114, zyv15, zyv15, zyv114, zyv114, zyv114, zyv114, zyv114, zyv114, zyv114, zyv114, zyv114, zyv114, zyv15, zyv114, zyv114, zyv114, zyv114, zyv15, zyv15, zyv15, zyv15, zyv114, zyv114, zyv114])
noncomputable def zyr276 : List zC := [zyc60, zyc60, zyc60, zyc69, zyc10, zyc10, zyc10, zyc12, zyc70, zyc8, zyc8, zyc70, zyc8, zyc8, zyc346, zyc52]
noncomputable def zyh1264 : zH := (126, [zyr9, zyr10, zyr11, zyr12, zyr13, zyr276, zyr6, zyr7], zym9)
noncomputable def zyc347 : zC := .inr (8, [zyv114, zyv15, zyv15, zyv15, zyv114, zyv114, zyv114, zyv114, zyv15, zyv114, zyv15, zyv15, zyv121, zyv17, zyv317, zyv344, zyv124, zyv114, zyv114, zyv114, zyv15, zyv36, zyv129, zyv114, zyv15, zyv114, zyv114, zyv15, zyv15, zyv114, zyv114, zyv114, zyv114, zyv114, zyv114, zyv114, zyv114, zyv114, zyv114, zyv15, zyv114, zyv114, zyv114, zyv114, zyv15, zyv15, zyv15, zyv15, zyv114, zyv114, zyv114])
noncomputable def zyr277 : List zC := [zyc60, zyc60, zyc60, zyc69, zyc10, zyc10, zyc10, zyc12, zyc70, zyc8, zyc8, zyc70, zyc8, zyc8, zyc347, zyc52]
noncomputable def zyh1265 : zH := (126, [zyr9, zyr10, zyr11, zyr12, zyr13, zyr277, zyr6, zyr7], 0)
noncomputable def zyh1266 : zH := (126, [zyr9, zyr10, zyr11, zyr12, zyr13, zyr277, zyr6, zyr7], zym9)
def zyv345 : zAV := .inl ((.ofNat 25, .ofNat 40), none)
noncomputable def zyc348 : zC := .inr (8, [zyv114, zyv15, zyv15, zyv15, zyv114, zyv114, zyv114, zyv114, zyv15, zyv114, zyv15, zyv15, zyv121, zyv17, zyv317, zyv345, zyv241, zyv114, zyv114, zyv114, zyv15, zyv36, zyv129, zyv114, zyv15, zyv114, zyv114, zyv15, zyv15, zyv114, zyv114, zyv114, zyv114, zyv114, zyv114, zyv114, zyv114, zyv114, zyv114, zyv15, zyv114, zyv114, zyv114, zyv114, zyv15, zyv15, zyv15, zyv15, zyv114, zyv114, zyv114])
noncomputable def zyr278 : List zC := [zyc60, zyc60, zyc60, zyc69, zyc10, zyc10, zyc10, zyc12, zyc70, zyc8, zyc8, zyc70, zyc8, zyc8, zyc348, zyc52]
noncomputable def zyh1267 : zH := (126, [zyr9, zyr10, zyr11, zyr12, zyr13, zyr278, zyr6, zyr7], zym9)
noncomputable def zyc349 : zC := .inr (8, [zyv114, zyv15, zyv15, zyv15, zyv114, zyv114, zyv114, zyv114, zyv15, zyv114, zyv15, zyv15, zyv121, zyv17, zyv317, zyv345, zyv124, zyv114, zyv114, zyv114, zyv15, zyv36, zyv129, zyv114, zyv15, zyv114, zyv114, zyv15, zyv15, zyv114, zyv114, zyv114, zyv114, zyv114, zyv114, zyv114, zyv114, zyv114, zyv114, zyv15, zyv114, zyv114, zyv114, zyv114, zyv15, zyv15, zyv15, zyv15, zyv114, zyv114, zyv114])
noncomputable def zyr279 : List zC := [zyc60, zyc60, zyc60, zyc69, zyc10, zyc10, zyc10, zyc12, zyc70, zyc8, zyc8, zyc70, zyc8, zyc8, zyc349, zyc52]
noncomputable def zyh1268 : zH := (126, [zyr9, zyr10, zyr11, zyr12, zyr13, zyr279, zyr6, zyr7], 0)
noncomputable def zyh1269 : zH := (126, [zyr9, zyr10, zyr11, zyr12, zyr13, zyr279, zyr6, zyr7], zym9)
def zyv346 : zAV := .inl ((.ofNat 26, .ofNat 40), none)
noncomputable def zyc350 : zC := .inr (8, [zyv114, zyv15, zyv15, zyv15, zyv114, zyv114, zyv114, zyv114, zyv15, zyv114, zyv15, zyv15, zyv121, zyv17, zyv317, zyv346, zyv241, zyv114, zyv114, zyv114, zyv15, zyv36, zyv129, zyv114, zyv15, zyv114, zyv114, zyv15, zyv15, zyv114, zyv114, zyv114, zyv114, zyv114, zyv114, zyv114, zyv114, zyv114, zyv114, zyv15, zyv114, zyv114, zyv114, zyv114, zyv15, zyv15, zyv15, zyv15, zyv114, zyv114, zyv114])
noncomputable def zyr280 : List zC := [zyc60, zyc60, zyc60, zyc69, zyc10, zyc10, zyc10, zyc12, zyc70, zyc8, zyc8, zyc70, zyc8, zyc8, zyc350, zyc52]
noncomputable def zyh1270 : zH := (126, [zyr9, zyr10, zyr11, zyr12, zyr13, zyr280, zyr6, zyr7], zym9)
noncomputable def zyc351 : zC := .inr (8, [zyv114, zyv15, zyv15, zyv15, zyv114, zyv114, zyv114, zyv114, zyv15, zyv114, zyv15, zyv15, zyv121, zyv17, zyv317, zyv346, zyv124, zyv114, zyv114, zyv114, zyv15, zyv36, zyv129, zyv114, zyv15, zyv114, zyv114, zyv15, zyv15, zyv114, zyv114, zyv114, zyv114, zyv114, zyv114, zyv114, zyv114, zyv114, zyv114, zyv15, zyv114, zyv114, zyv114, zyv114, zyv15, zyv15, zyv15, zyv15, zyv114, zyv114, zyv114])
noncomputable def zyr281 : List zC := [zyc60, zyc60, zyc60, zyc69, zyc10, zyc10, zyc10, zyc12, zyc70, zyc8, zyc8, zyc70, zyc8, zyc8, zyc351, zyc52]
noncomputable def zyh1271 : zH := (126, [zyr9, zyr10, zyr11, zyr12, zyr13, zyr281, zyr6, zyr7], 0)
noncomputable def zyh1272 : zH := (126, [zyr9, zyr10, zyr11, zyr12, zyr13, zyr281, zyr6, zyr7], zym9)
def zyv347 : zAV := .inl ((.ofNat 27, .ofNat 40), none)
noncomputable def zyc352 : zC := .inr (8, [zyv114, zyv15, zyv15, zyv15, zyv114, zyv114, zyv114, zyv114, zyv15, zyv114, zyv15, zyv15, zyv121, zyv17, zyv317, zyv347, zyv241, zyv114, zyv114, zyv114, zyv15, zyv36, zyv129, zyv114, zyv15, zyv114, zyv114, zyv15, zyv15, zyv114, zyv114, zyv114, zyv114, zyv114, zyv114, zyv114, zyv114, zyv114, zyv114, zyv15, zyv114, zyv114, zyv114, zyv114, zyv15, zyv15, zyv15, zyv15, zyv114, zyv114, zyv114])
noncomputable def zyr282 : List zC := [zyc60, zyc60, zyc60, zyc69, zyc10, zyc10, zyc10, zyc12, zyc70, zyc8, zyc8, zyc70, zyc8, zyc8, zyc352, zyc52]
noncomputable def zyh1273 : zH := (126, [zyr9, zyr10, zyr11, zyr12, zyr13, zyr282, zyr6, zyr7], zym9)
noncomputable def zyc353 : zC := .inr (8, [zyv114, zyv15, zyv15, zyv15, zyv114, zyv114, zyv114, zyv114, zyv15, zyv114, zyv15, zyv15, zyv121, zyv17, zyv317, zyv347, zyv124, zyv114, zyv114, zyv114, zyv15, zyv36, zyv129, zyv114, zyv15, zyv114, zyv114, zyv15, zyv15, zyv114, zyv114, zyv114, zyv114, zyv114, zyv114, zyv114, zyv114, zyv114, zyv114, zyv15, zyv114, zyv114, zyv114, zyv114, zyv15, zyv15, zyv15, zyv15, zyv114, zyv114, zyv114])
noncomputable def zyr283 : List zC := [zyc60, zyc60, zyc60, zyc69, zyc10, zyc10, zyc10, zyc12, zyc70, zyc8, zyc8, zyc70, zyc8, zyc8, zyc353, zyc52]
noncomputable def zyh1274 : zH := (126, [zyr9, zyr10, zyr11, zyr12, zyr13, zyr283, zyr6, zyr7], 0)
noncomputable def zyh1275 : zH := (126, [zyr9, zyr10, zyr11, zyr12, zyr13, zyr283, zyr6, zyr7], zym9)
def zyv348 : zAV := .inl ((.ofNat 28, .ofNat 40), none)
noncomputable def zyc354 : zC := .inr (8, [zyv114, zyv15, zyv15, zyv15, zyv114, zyv114, zyv114, zyv114, zyv15, zyv114, zyv15, zyv15, zyv121, zyv17, zyv317, zyv348, zyv241, zyv114, zyv114, zyv114, zyv15, zyv36, zyv129, zyv114, zyv15, zyv114, zyv114, zyv15, zyv15, zyv114, zyv114, zyv114, zyv114, zyv114, zyv114, zyv114, zyv114, zyv114, zyv114, zyv15, zyv114, zyv114, zyv114, zyv114, zyv15, zyv15, zyv15, zyv15, zyv114, zyv114, zyv114])
noncomputable def zyr284 : List zC := [zyc60, zyc60, zyc60, zyc69, zyc10, zyc10, zyc10, zyc12, zyc70, zyc8, zyc8, zyc70, zyc8, zyc8, zyc354, zyc52]
noncomputable def zyh1276 : zH := (126, [zyr9, zyr10, zyr11, zyr12, zyr13, zyr284, zyr6, zyr7], zym9)
noncomputable def zyc355 : zC := .inr (8, [zyv114, zyv15, zyv15, zyv15, zyv114, zyv114, zyv114, zyv114, zyv15, zyv114, zyv15, zyv15, zyv121, zyv17, zyv317, zyv348, zyv124, zyv114, zyv114, zyv114, zyv15, zyv36, zyv129, zyv114, zyv15, zyv114, zyv114, zyv15, zyv15, zyv114, zyv114, zyv114, zyv114, zyv114, zyv114, zyv114, zyv114, zyv114, zyv114, zyv15, zyv114, zyv114, zyv114, zyv114, zyv15, zyv15, zyv15, zyv15, zyv114, zyv114, zyv114])
noncomputable def zyr285 : List zC := [zyc60, zyc60, zyc60, zyc69, zyc10, zyc10, zyc10, zyc12, zyc70, zyc8, zyc8, zyc70, zyc8, zyc8, zyc355, zyc52]
noncomputable def zyh1277 : zH := (126, [zyr9, zyr10, zyr11, zyr12, zyr13, zyr285, zyr6, zyr7], 0)
noncomputable def zyh1278 : zH := (126, [zyr9, zyr10, zyr11, zyr12, zyr13, zyr285, zyr6, zyr7], zym9)
def zyv349 : zAV := .inl ((.ofNat 29, .ofNat 40), none)
noncomputable def zyc356 : zC := .inr (8, [zyv114, zyv15, zyv15, zyv15, zyv114, zyv114, zyv114, zyv114, zyv15, zyv114, zyv15, zyv15, zyv121, zyv17, zyv317, zyv349, zyv241, zyv114, zyv114, zyv114, zyv15, zyv36, zyv129, zyv114, zyv15, zyv114, zyv114, zyv15, zyv15, zyv114, zyv114, zyv114, zyv114, zyv114, zyv114, zyv114, zyv114, zyv114, zyv114, zyv15, zyv114, zyv114, zyv114, zyv114, zyv15, zyv15, zyv15, zyv15, zyv114, zyv114, zyv114])
noncomputable def zyr286 : List zC := [zyc60, zyc60, zyc60, zyc69, zyc10, zyc10, zyc10, zyc12, zyc70, zyc8, zyc8, zyc70, zyc8, zyc8, zyc356, zyc52]
noncomputable def zyh1279 : zH := (126, [zyr9, zyr10, zyr11, zyr12, zyr13, zyr286, zyr6, zyr7], zym9)
noncomputable def zyc357 : zC := .inr (8, [zyv114, zyv15, zyv15, zyv15, zyv114, zyv114, zyv114, zyv114, zyv15, zyv114, zyv15, zyv15, zyv121, zyv17, zyv317, zyv349, zyv124, zyv114, zyv114, zyv114, zyv15, zyv36, zyv129, zyv114, zyv15, zyv114, zyv114, zyv15, zyv15, zyv114, zyv114, zyv114, zyv114, zyv114, zyv114, zyv114, zyv114, zyv114, zyv114, zyv15, zyv114, zyv114, zyv114, zyv114, zyv15, zyv15, zyv15, zyv15, zyv114, zyv114, zyv114])
noncomputable def zyr287 : List zC := [zyc60, zyc60, zyc60, zyc69, zyc10, zyc10, zyc10, zyc12, zyc70, zyc8, zyc8, zyc70, zyc8, zyc8, zyc357, zyc52]
noncomputable def zyh1280 : zH := (126, [zyr9, zyr10, zyr11, zyr12, zyr13, zyr287, zyr6, zyr7], 0)
noncomputable def zyh1281 : zH := (126, [zyr9, zyr10, zyr11, zyr12, zyr13, zyr287, zyr6, zyr7], zym9)
def zyv350 : zAV := .inl ((.ofNat 30, .ofNat 40), none)
noncomputable def zyc358 : zC := .inr (8, [zyv114, zyv15, zyv15, zyv15, zyv114, zyv114, zyv114, zyv114, zyv15, zyv114, zyv15, zyv15, zyv121, zyv17, zyv317, zyv350, zyv241, zyv114, zyv114, zyv114, zyv15, zyv36, zyv129, zyv114, zyv15, zyv114, zyv114, zyv15, zyv15, zyv114, zyv114, zyv114, zyv114, zyv114, zyv114, zyv114, zyv114, zyv114, zyv114, zyv15, zyv114, zyv114, zyv114, zyv114, zyv15, zyv15, zyv15, zyv15, zyv114, zyv114, zyv114])
noncomputable def zyr288 : List zC := [zyc60, zyc60, zyc60, zyc69, zyc10, zyc10, zyc10, zyc12, zyc70, zyc8, zyc8, zyc70, zyc8, zyc8, zyc358, zyc52]
noncomputable def zyh1282 : zH := (126, [zyr9, zyr10, zyr11, zyr12, zyr13, zyr288, zyr6, zyr7], zym9)
noncomputable def zyc359 : zC := .inr (8, [zyv114, zyv15, zyv15, zyv15, zyv114, zyv114, zyv114, zyv114, zyv15, zyv114, zyv15, zyv15, zyv121, zyv17, zyv317, zyv350, zyv124, zyv114, zyv114, zyv114, zyv15, zyv36, zyv129, zyv114, zyv15, zyv114, zyv114, zyv15, zyv15, zyv114, zyv114, zyv114, zyv114, zyv114, zyv114, zyv114, zyv114, zyv114, zyv114, zyv15, zyv114, zyv114, zyv114, zyv114, zyv15, zyv15, zyv15, zyv15, zyv114, zyv114, zyv114])
noncomputable def zyr289 : List zC := [zyc60, zyc60, zyc60, zyc69, zyc10, zyc10, zyc10, zyc12, zyc70, zyc8, zyc8, zyc70, zyc8, zyc8, zyc359, zyc52]
noncomputable def zyh1283 : zH := (126, [zyr9, zyr10, zyr11, zyr12, zyr13, zyr289, zyr6, zyr7], 0)
noncomputable def zyh1284 : zH := (126, [zyr9, zyr10, zyr11, zyr12, zyr13, zyr289, zyr6, zyr7], zym9)
def zyv351 : zAV := .inl ((.ofNat 31, .ofNat 40), none)
noncomputable def zyc360 : zC := .inr (8, [zyv114, zyv15, zyv15, zyv15, zyv114, zyv114, zyv114, zyv114, zyv15, zyv114, zyv15, zyv15, zyv121, zyv17, zyv317, zyv351, zyv241, zyv114, zyv114, zyv114, zyv15, zyv36, zyv129, zyv114, zyv15, zyv114, zyv114, zyv15, zyv15, zyv114, zyv114, zyv114, zyv114, zyv114, zyv114, zyv114, zyv114, zyv114, zyv114, zyv15, zyv114, zyv114, zyv114, zyv114, zyv15, zyv15, zyv15, zyv15, zyv114, zyv114, zyv114])
noncomputable def zyr290 : List zC := [zyc60, zyc60, zyc60, zyc69, zyc10, zyc10, zyc10, zyc12, zyc70, zyc8, zyc8, zyc70, zyc8, zyc8, zyc360, zyc52]
noncomputable def zyh1285 : zH := (126, [zyr9, zyr10, zyr11, zyr12, zyr13, zyr290, zyr6, zyr7], zym9)
noncomputable def zyc361 : zC := .inr (8, [zyv114, zyv15, zyv15, zyv15, zyv114, zyv114, zyv114, zyv114, zyv15, zyv114, zyv15, zyv15, zyv121, zyv17, zyv317, zyv351, zyv124, zyv114, zyv114, zyv114, zyv15, zyv36, zyv129, zyv114, zyv15, zyv114, zyv114, zyv15, zyv15, zyv114, zyv114, zyv114, zyv114, zyv114, zyv114, zyv114, zyv114, zyv114, zyv114, zyv15, zyv114, zyv114, zyv114, zyv114, zyv15, zyv15, zyv15, zyv15, zyv114, zyv114, zyv114])
noncomputable def zyr291 : List zC := [zyc60, zyc60, zyc60, zyc69, zyc10, zyc10, zyc10, zyc12, zyc70, zyc8, zyc8, zyc70, zyc8, zyc8, zyc361, zyc52]
noncomputable def zyh1286 : zH := (126, [zyr9, zyr10, zyr11, zyr12, zyr13, zyr291, zyr6, zyr7], 0)
noncomputable def zyh1287 : zH := (126, [zyr9, zyr10, zyr11, zyr12, zyr13, zyr291, zyr6, zyr7], zym9)
def zyv352 : zAV := .inl ((.ofNat 32, .ofNat 40), none)
noncomputable def zyc362 : zC := .inr (8, [zyv114, zyv15, zyv15, zyv15, zyv114, zyv114, zyv114, zyv114, zyv15, zyv114, zyv15, zyv15, zyv121, zyv17, zyv317, zyv352, zyv241, zyv114, zyv114, zyv114, zyv15, zyv36, zyv129, zyv114, zyv15, zyv114, zyv114, zyv15, zyv15, zyv114, zyv114, zyv114, zyv114, zyv114, zyv114, zyv114, zyv114, zyv114, zyv114, zyv15, zyv114, zyv114, zyv114, zyv114, zyv15, zyv15, zyv15, zyv15, zyv114, zyv114, zyv114])
noncomputable def zyr292 : List zC := [zyc60, zyc60, zyc60, zyc69, zyc10, zyc10, zyc10, zyc12, zyc70, zyc8, zyc8, zyc70, zyc8, zyc8, zyc362, zyc52]
noncomputable def zyh1288 : zH := (126, [zyr9, zyr10, zyr11, zyr12, zyr13, zyr292, zyr6, zyr7], zym9)
noncomputable def zyc363 : zC := .inr (8, [zyv114, zyv15, zyv15, zyv15, zyv114, zyv114, zyv114, zyv114, zyv15, zyv114, zyv15, zyv15, zyv121, zyv17, zyv317, zyv352, zyv124, zyv114, zyv114, zyv114, zyv15, zyv36, zyv129, zyv114, zyv15, zyv114, zyv114, zyv15, zyv15, zyv114, zyv114, zyv114, zyv114, zyv114, zyv114, zyv114, zyv114, zyv114, zyv114, zyv15, zyv114, zyv114, zyv114, zyv114, zyv15, zyv15, zyv15, zyv15, zyv114, zyv114, zyv114])
noncomputable def zyr293 : List zC := [zyc60, zyc60, zyc60, zyc69, zyc10, zyc10, zyc10, zyc12, zyc70, zyc8, zyc8, zyc70, zyc8, zyc8, zyc363, zyc52]
noncomputable def zyh1289 : zH := (126, [zyr9, zyr10, zyr11, zyr12, zyr13, zyr293, zyr6, zyr7], 0)
noncomputable def zyh1290 : zH := (126, [zyr9, zyr10, zyr11, zyr12, zyr13, zyr293, zyr6, zyr7], zym9)
def zyv353 : zAV := .inl ((.ofNat 33, .ofNat 40), none)
noncomputable def zyc364 : zC := .inr (8, [zyv114, zyv15, zyv15, zyv15, zyv114, zyv114, zyv114, zyv114, zyv15, zyv114, zyv15, zyv15, zyv121, zyv17, zyv317, zyv353, zyv241, zyv114, zyv114, zyv114, zyv15, zyv36, zyv129, zyv114, zyv15, zyv114, zyv114, zyv15, zyv15, zyv114, zyv114, zyv114, zyv114, zyv114, zyv114, zyv114, zyv114, zyv114, zyv114, zyv15, zyv114, zyv114, zyv114, zyv114, zyv15, zyv15, zyv15, zyv15, zyv114, zyv114, zyv114])
noncomputable def zyr294 : List zC := [zyc60, zyc60, zyc60, zyc69, zyc10, zyc10, zyc10, zyc12, zyc70, zyc8, zyc8, zyc70, zyc8, zyc8, zyc364, zyc52]
noncomputable def zyh1291 : zH := (126, [zyr9, zyr10, zyr11, zyr12, zyr13, zyr294, zyr6, zyr7], zym9)
noncomputable def zyc365 : zC := .inr (8, [zyv114, zyv15, zyv15, zyv15, zyv114, zyv114, zyv114, zyv114, zyv15, zyv114, zyv15, zyv15, zyv121, zyv17, zyv317, zyv353, zyv124, zyv114, zyv114, zyv114, zyv15, zyv36, zyv129, zyv114, zyv15, zyv114, zyv114, zyv15, zyv15, zyv114, zyv114, zyv114, zyv114, zyv114, zyv114, zyv114, zyv114, zyv114, zyv114, zyv15, zyv114, zyv114, zyv114, zyv114, zyv15, zyv15, zyv15, zyv15, zyv114, zyv114, zyv114])
noncomputable def zyr295 : List zC := [zyc60, zyc60, zyc60, zyc69, zyc10, zyc10, zyc10, zyc12, zyc70, zyc8, zyc8, zyc70, zyc8, zyc8, zyc365, zyc52]
noncomputable def zyh1292 : zH := (126, [zyr9, zyr10, zyr11, zyr12, zyr13, zyr295, zyr6, zyr7], 0)
noncomputable def zyh1293 : zH := (126, [zyr9, zyr10, zyr11, zyr12, zyr13, zyr295, zyr6, zyr7], zym9)
def zyv354 : zAV := .inl ((.ofNat 34, .ofNat 40), none)
noncomputable def zyc366 : zC := .inr (8, [zyv114, zyv15, zyv15, zyv15, zyv114, zyv114, zyv114, zyv114, zyv15, zyv114, zyv15, zyv15, zyv121, zyv17, zyv317, zyv354, zyv241, zyv114, zyv114, zyv114, zyv15, zyv36, zyv129, zyv114, zyv15, zyv114, zyv114, zyv15, zyv15, zyv114, zyv114, zyv114, zyv114, zyv114, zyv114, zyv114, zyv114, zyv114, zyv114, zyv15, zyv114, zyv114, zyv114, zyv114, zyv15, zyv15, zyv15, zyv15, zyv114, zyv114, zyv114])
noncomputable def zyr296 : List zC := [zyc60, zyc60, zyc60, zyc69, zyc10, zyc10, zyc10, zyc12, zyc70, zyc8, zyc8, zyc70, zyc8, zyc8, zyc366, zyc52]
noncomputable def zyh1294 : zH := (126, [zyr9, zyr10, zyr11, zyr12, zyr13, zyr296, zyr6, zyr7], zym9)
noncomputable def zyc367 : zC := .inr (8, [zyv114, zyv15, zyv15, zyv15, zyv114, zyv114, zyv114, zyv114, zyv15, zyv114, zyv15, zyv15, zyv121, zyv17, zyv317, zyv354, zyv124, zyv114, zyv114, zyv114, zyv15, zyv36, zyv129, zyv114, zyv15, zyv114, zyv114, zyv15, zyv15, zyv114, zyv114, zyv114, zyv114, zyv114, zyv114, zyv114, zyv114, zyv114, zyv114, zyv15, zyv114, zyv114, zyv114, zyv114, zyv15, zyv15, zyv15, zyv15, zyv114, zyv114, zyv114])
noncomputable def zyr297 : List zC := [zyc60, zyc60, zyc60, zyc69, zyc10, zyc10, zyc10, zyc12, zyc70, zyc8, zyc8, zyc70, zyc8, zyc8, zyc367, zyc52]
noncomputable def zyh1295 : zH := (126, [zyr9, zyr10, zyr11, zyr12, zyr13, zyr297, zyr6, zyr7], 0)
noncomputable def zyh1296 : zH := (126, [zyr9, zyr10, zyr11, zyr12, zyr13, zyr297, zyr6, zyr7], zym9)
def zyv355 : zAV := .inl ((.ofNat 35, .ofNat 40), none)
noncomputable def zyc368 : zC := .inr (8, [zyv114, zyv15, zyv15, zyv15, zyv114, zyv114, zyv114, zyv114, zyv15, zyv114, zyv15, zyv15, zyv121, zyv17, zyv317, zyv355, zyv241, zyv114, zyv114, zyv114, zyv15, zyv36, zyv129, zyv114, zyv15, zyv114, zyv114, zyv15, zyv15, zyv114, zyv114, zyv114, zyv114, zyv114, zyv114, zyv114, zyv114, zyv114, zyv114, zyv15, zyv114, zyv114, zyv114, zyv114, zyv15, zyv15, zyv15, zyv15, zyv114, zyv114, zyv114])
noncomputable def zyr298 : List zC := [zyc60, zyc60, zyc60, zyc69, zyc10, zyc10, zyc10, zyc12, zyc70, zyc8, zyc8, zyc70, zyc8, zyc8, zyc368, zyc52]
noncomputable def zyh1297 : zH := (126, [zyr9, zyr10, zyr11, zyr12, zyr13, zyr298, zyr6, zyr7], zym9)
noncomputable def zyc369 : zC := .inr (8, [zyv114, zyv15, zyv15, zyv15, zyv114, zyv114, zyv114, zyv114, zyv15, zyv114, zyv15, zyv15, zyv121, zyv17, zyv317, zyv355, zyv124, zyv114, zyv114, zyv114, zyv15, zyv36, zyv129, zyv114, zyv15, zyv114, zyv114, zyv15, zyv15, zyv114, zyv114, zyv114, zyv114, zyv114, zyv114, zyv114, zyv114, zyv114, zyv114, zyv15, zyv114, zyv114, zyv114, zyv114, zyv15, zyv15, zyv15, zyv15, zyv114, zyv114, zyv114])
noncomputable def zyr299 : List zC := [zyc60, zyc60, zyc60, zyc69, zyc10, zyc10, zyc10, zyc12, zyc70, zyc8, zyc8, zyc70, zyc8, zyc8, zyc369, zyc52]
noncomputable def zyh1298 : zH := (126, [zyr9, zyr10, zyr11, zyr12, zyr13, zyr299, zyr6, zyr7], 0)
noncomputable def zyh1299 : zH := (126, [zyr9, zyr10, zyr11, zyr12, zyr13, zyr299, zyr6, zyr7], zym9)
def zyv356 : zAV := .inl ((.ofNat 36, .ofNat 40), none)
noncomputable def zyc370 : zC := .inr (8, [zyv114, zyv15, zyv15, zyv15, zyv114, zyv114, zyv114, zyv114, zyv15, zyv114, zyv15, zyv15, zyv121, zyv17, zyv317, zyv356, zyv241, zyv114, zyv114, zyv114, zyv15, zyv36, zyv129, zyv114, zyv15, zyv114, zyv114, zyv15, zyv15, zyv114, zyv114, zyv114, zyv114, zyv114, zyv114, zyv114, zyv114, zyv114, zyv114, zyv15, zyv114, zyv114, zyv114, zyv114, zyv15, zyv15, zyv15, zyv15, zyv114, zyv114, zyv114])
noncomputable def zyr300 : List zC := [zyc60, zyc60, zyc60, zyc69, zyc10, zyc10, zyc10, zyc12, zyc70, zyc8, zyc8, zyc70, zyc8, zyc8, zyc370, zyc52]
noncomputable def zyh1300 : zH := (126, [zyr9, zyr10, zyr11, zyr12, zyr13, zyr300, zyr6, zyr7], zym9)
noncomputable def zyc371 : zC := .inr (8, [zyv114, zyv15, zyv15, zyv15, zyv114, zyv114, zyv114, zyv114, zyv15, zyv114, zyv15, zyv15, zyv121, zyv17, zyv317, zyv356, zyv124, zyv114, zyv114, zyv114, zyv15, zyv36, zyv129, zyv114, zyv15, zyv114, zyv114, zyv15, zyv15, zyv114, zyv114, zyv114, zyv114, zyv114, zyv114, zyv114, zyv114, zyv114, zyv114, zyv15, zyv114, zyv114, zyv114, zyv114, zyv15, zyv15, zyv15, zyv15, zyv114, zyv114, zyv114])
noncomputable def zyr301 : List zC := [zyc60, zyc60, zyc60, zyc69, zyc10, zyc10, zyc10, zyc12, zyc70, zyc8, zyc8, zyc70, zyc8, zyc8, zyc371, zyc52]
noncomputable def zyh1301 : zH := (126, [zyr9, zyr10, zyr11, zyr12, zyr13, zyr301, zyr6, zyr7], 0)
noncomputable def zyh1302 : zH := (126, [zyr9, zyr10, zyr11, zyr12, zyr13, zyr301, zyr6, zyr7], zym9)
def zyv357 : zAV := .inl ((.ofNat 37, .ofNat 40), none)
noncomputable def zyc372 : zC := .inr (8, [zyv114, zyv15, zyv15, zyv15, zyv114, zyv114, zyv114, zyv114, zyv15, zyv114, zyv15, zyv15, zyv121, zyv17, zyv317, zyv357, zyv241, zyv114, zyv114, zyv114, zyv15, zyv36, zyv129, zyv114, zyv15, zyv114, zyv114, zyv15, zyv15, zyv114, zyv114, zyv114, zyv114, zyv114, zyv114, zyv114, zyv114, zyv114, zyv114, zyv15, zyv114, zyv114, zyv114, zyv114, zyv15, zyv15, zyv15, zyv15, zyv114, zyv114, zyv114])
noncomputable def zyr302 : List zC := [zyc60, zyc60, zyc60, zyc69, zyc10, zyc10, zyc10, zyc12, zyc70, zyc8, zyc8, zyc70, zyc8, zyc8, zyc372, zyc52]
noncomputable def zyh1303 : zH := (126, [zyr9, zyr10, zyr11, zyr12, zyr13, zyr302, zyr6, zyr7], zym9)
noncomputable def zyc373 : zC := .inr (8, [zyv114, zyv15, zyv15, zyv15, zyv114, zyv114, zyv114, zyv114, zyv15, zyv114, zyv15, zyv15, zyv121, zyv17, zyv317, zyv357, zyv124, zyv114, zyv114, zyv114, zyv15, zyv36, zyv129, zyv114, zyv15, zyv114, zyv114, zyv15, zyv15, zyv114, zyv114, zyv114, zyv114, zyv114, zyv114, zyv114, zyv114, zyv114, zyv114, zyv15, zyv114, zyv114, zyv114, zyv114, zyv15, zyv15, zyv15, zyv15, zyv114, zyv114, zyv114])
noncomputable def zyr303 : List zC := [zyc60, zyc60, zyc60, zyc69, zyc10, zyc10, zyc10, zyc12, zyc70, zyc8, zyc8, zyc70, zyc8, zyc8, zyc373, zyc52]
noncomputable def zyh1304 : zH := (126, [zyr9, zyr10, zyr11, zyr12, zyr13, zyr303, zyr6, zyr7], 0)
noncomputable def zyh1305 : zH := (126, [zyr9, zyr10, zyr11, zyr12, zyr13, zyr303, zyr6, zyr7], zym9)
def zyv358 : zAV := .inl ((.ofNat 38, .ofNat 40), none)
noncomputable def zyc374 : zC := .inr (8, [zyv114, zyv15, zyv15, zyv15, zyv114, zyv114, zyv114, zyv114, zyv15, zyv114, zyv15, zyv15, zyv121, zyv17, zyv317, zyv358, zyv241, zyv114, zyv114, zyv114, zyv15, zyv36, zyv129, zyv114, zyv15, zyv114, zyv114, zyv15, zyv15, zyv114, zyv114, zyv114, zyv114, zyv114, zyv114, zyv114, zyv114, zyv114, zyv114, zyv15, zyv114, zyv114, zyv114, zyv114, zyv15, zyv15, zyv15, zyv15, zyv114, zyv114, zyv114])
noncomputable def zyr304 : List zC := [zyc60, zyc60, zyc60, zyc69, zyc10, zyc10, zyc10, zyc12, zyc70, zyc8, zyc8, zyc70, zyc8, zyc8, zyc374, zyc52]
noncomputable def zyh1306 : zH := (126, [zyr9, zyr10, zyr11, zyr12, zyr13, zyr304, zyr6, zyr7], zym9)
noncomputable def zyc375 : zC := .inr (8, [zyv114, zyv15, zyv15, zyv15, zyv114, zyv114, zyv114, zyv114, zyv15, zyv114, zyv15, zyv15, zyv121, zyv17, zyv317, zyv358, zyv124, zyv114, zyv114, zyv114, zyv15, zyv36, zyv129, zyv114, zyv15, zyv114, zyv114, zyv15, zyv15, zyv114, zyv114, zyv114, zyv114, zyv114, zyv114, zyv114, zyv114, zyv114, zyv114, zyv15, zyv114, zyv114, zyv114, zyv114, zyv15, zyv15, zyv15, zyv15, zyv114, zyv114, zyv114])
noncomputable def zyr305 : List zC := [zyc60, zyc60, zyc60, zyc69, zyc10, zyc10, zyc10, zyc12, zyc70, zyc8, zyc8, zyc70, zyc8, zyc8, zyc375, zyc52]
noncomputable def zyh1307 : zH := (126, [zyr9, zyr10, zyr11, zyr12, zyr13, zyr305, zyr6, zyr7], 0)
noncomputable def zyh1308 : zH := (126, [zyr9, zyr10, zyr11, zyr12, zyr13, zyr305, zyr6, zyr7], zym9)
def zyv359 : zAV := .inl ((.ofNat 39, .ofNat 40), none)
noncomputable def zyc376 : zC := .inr (8, [zyv114, zyv15, zyv15, zyv15, zyv114, zyv114, zyv114, zyv114, zyv15, zyv114, zyv15, zyv15, zyv121, zyv17, zyv317, zyv359, zyv241, zyv114, zyv114, zyv114, zyv15, zyv36, zyv129, zyv114, zyv15, zyv114, zyv114, zyv15, zyv15, zyv114, zyv114, zyv114, zyv114, zyv114, zyv114, zyv114, zyv114, zyv114, zyv114, zyv15, zyv114, zyv114, zyv114, zyv114, zyv15, zyv15, zyv15, zyv15, zyv114, zyv114, zyv114])
noncomputable def zyr306 : List zC := [zyc60, zyc60, zyc60, zyc69, zyc10, zyc10, zyc10, zyc12, zyc70, zyc8, zyc8, zyc70, zyc8, zyc8, zyc376, zyc52]
noncomputable def zyh1309 : zH := (126, [zyr9, zyr10, zyr11, zyr12, zyr13, zyr306, zyr6, zyr7], zym9)
noncomputable def zyc377 : zC := .inr (8, [zyv114, zyv15, zyv15, zyv15, zyv114, zyv114, zyv114, zyv114, zyv15, zyv114, zyv15, zyv15, zyv121, zyv17, zyv317, zyv359, zyv124, zyv114, zyv114, zyv114, zyv15, zyv36, zyv129, zyv114, zyv15, zyv114, zyv114, zyv15, zyv15, zyv114, zyv114, zyv114, zyv114, zyv114, zyv114, zyv114, zyv114, zyv114, zyv114, zyv15, zyv114, zyv114, zyv114, zyv114, zyv15, zyv15, zyv15, zyv15, zyv114, zyv114, zyv114])
noncomputable def zyr307 : List zC := [zyc60, zyc60, zyc60, zyc69, zyc10, zyc10, zyc10, zyc12, zyc70, zyc8, zyc8, zyc70, zyc8, zyc8, zyc377, zyc52]
noncomputable def zyh1310 : zH := (126, [zyr9, zyr10, zyr11, zyr12, zyr13, zyr307, zyr6, zyr7], 0)
noncomputable def zyh1311 : zH := (126, [zyr9, zyr10, zyr11, zyr12, zyr13, zyr307, zyr6, zyr7], zym9)
noncomputable def zyc378 : zC := .inr (8, [zyv114, zyv15, zyv15, zyv15, zyv114, zyv114, zyv114, zyv114, zyv15, zyv114, zyv15, zyv15, zyv121, zyv17, zyv317, zyv317, zyv241, zyv114, zyv114, zyv114, zyv15, zyv36, zyv129, zyv114, zyv15, zyv114, zyv114, zyv15, zyv15, zyv114, zyv114, zyv114, zyv114, zyv114, zyv114, zyv114, zyv114, zyv114, zyv114, zyv15, zyv114, zyv114, zyv114, zyv114, zyv15, zyv15, zyv15, zyv15, zyv114, zyv114, zyv114])
noncomputable def zyr308 : List zC := [zyc60, zyc60, zyc60, zyc69, zyc10, zyc10, zyc10, zyc12, zyc70, zyc8, zyc8, zyc70, zyc8, zyc8, zyc378, zyc52]
noncomputable def zyh1312 : zH := (126, [zyr9, zyr10, zyr11, zyr12, zyr13, zyr308, zyr6, zyr7], zym9)
noncomputable def zyc379 : zC := .inr (8, [zyv114, zyv15, zyv15, zyv15, zyv114, zyv114, zyv114, zyv114, zyv15, zyv114, zyv15, zyv15, zyv121, zyv17, zyv317, zyv317, zyv124, zyv114, zyv114, zyv114, zyv15, zyv36, zyv129, zyv114, zyv15, zyv114, zyv114, zyv15, zyv15, zyv114, zyv114, zyv114, zyv114, zyv114, zyv114, zyv114, zyv114, zyv114, zyv114, zyv15, zyv114, zyv114, zyv114, zyv114, zyv15, zyv15, zyv15, zyv15, zyv114, zyv114, zyv114])
noncomputable def zyr309 : List zC := [zyc60, zyc60, zyc60, zyc69, zyc10, zyc10, zyc10, zyc12, zyc70, zyc8, zyc8, zyc70, zyc8, zyc8, zyc379, zyc52]
noncomputable def zyh1313 : zH := (126, [zyr9, zyr10, zyr11, zyr12, zyr13, zyr309, zyr6, zyr7], 0)
noncomputable def zyh1314 : zH := (126, [zyr9, zyr10, zyr11, zyr12, zyr13, zyr309, zyr6, zyr7], zym9)
def zyv360 : zAV := .inl ((.ofNat 48, .ofNat 48), none)
def zyv361 : zAV := .inl ((.ofNat 10, .ofNat 10), none)
noncomputable def zyc380 : zC := .inr (8, [zyv114, zyv15, zyv15, zyv15, zyv114, zyv114, zyv114, zyv114, zyv15, zyv114, zyv15, zyv15, zyv121, zyv17, zyv317, zyv359, zyv17, zyv114, zyv114, zyv114, zyv15, zyv36, zyv129, zyv114, zyv15, zyv114, zyv114, zyv15, zyv15, zyv114, zyv114, zyv114, zyv114, zyv114, zyv114, zyv114, zyv114, zyv114, zyv114, zyv15, zyv114, zyv114, zyv114, zyv114, zyv15, zyv15, zyv15, zyv15, zyv114, zyv114, zyv114])
noncomputable def zyr310 : List zC := [zyc60, zyc60, zyc60, zyc69, zyc10, zyc10, zyc10, zyc12, zyc70, zyc8, zyc8, zyc70, zyc8, zyc8, zyc380, zyc52]
noncomputable def zyh1315 : zH := (126, [zyr9, zyr10, zyr11, zyr12, zyr13, zyr310, zyr6, zyr7], zym9)
noncomputable def zyc381 : zC := .inr (8, [zyv114, zyv15, zyv15, zyv15, zyv114, zyv114, zyv114, zyv114, zyv15, zyv114, zyv15, zyv15, zyv121, zyv17, zyv317, zyv358, zyv17, zyv114, zyv114, zyv114, zyv15, zyv36, zyv129, zyv114, zyv15, zyv114, zyv114, zyv15, zyv15, zyv114, zyv114, zyv114, zyv114, zyv114, zyv114, zyv114, zyv114, zyv114, zyv114, zyv15, zyv114, zyv114, zyv114, zyv114, zyv15, zyv15, zyv15, zyv15, zyv114, zyv114, zyv114])
noncomputable def zyr311 : List zC := [zyc60, zyc60, zyc60, zyc69, zyc10, zyc10, zyc10, zyc12, zyc70, zyc8, zyc8, zyc70, zyc8, zyc8, zyc381, zyc52]
noncomputable def zyh1316 : zH := (126, [zyr9, zyr10, zyr11, zyr12, zyr13, zyr311, zyr6, zyr7], zym9)
noncomputable def zyc382 : zC := .inr (8, [zyv114, zyv15, zyv15, zyv15, zyv114, zyv114, zyv114, zyv114, zyv15, zyv114, zyv15, zyv15, zyv121, zyv17, zyv317, zyv357, zyv17, zyv114, zyv114, zyv114, zyv15, zyv36, zyv129, zyv114, zyv15, zyv114, zyv114, zyv15, zyv15, zyv114, zyv114, zyv114, zyv114, zyv114, zyv114, zyv114, zyv114, zyv114, zyv114, zyv15, zyv114, zyv114, zyv114, zyv114, zyv15, zyv15, zyv15, zyv15, zyv114, zyv114, zyv114])
noncomputable def zyr312 : List zC := [zyc60, zyc60, zyc60, zyc69, zyc10, zyc10, zyc10, zyc12, zyc70, zyc8, zyc8, zyc70, zyc8, zyc8, zyc382, zyc52]
noncomputable def zyh1317 : zH := (126, [zyr9, zyr10, zyr11, zyr12, zyr13, zyr312, zyr6, zyr7], zym9)
/-! X8_passes -/
noncomputable def zyx16a : List zAV := [zyv318, zyv319]
noncomputable def zyx16q : List (Option zAV × zH) := [(some (.inl ((.ofNat 0, .ofNat 0), none)), zyh1197), (some (.inl ((.ofNat 1, .ofNat 1), none)), zyh1198)]
noncomputable def zyx16d : zKw := (263, 2, 3, 420, zyx16a, zyh1196, zyx16q)
noncomputable def zbzyx16e : Bool := zrunw zprog2 (zovW []) 100000 zcut0 3 420 kX8_passes (zkinL zyx16q) 0 (zargs 0 zyx16a, [], (zyh1196.1, zyh1196.2.1, 0), 0, 0)
/-! X8_passes -/
noncomputable def zyx17a : List zAV := [zyv318, zyv321]
noncomputable def zyx17q : List (Option zAV × zH) := [(some (.inl ((.ofNat 0, .ofNat 0), none)), zyh1200), (some (.inl ((.ofNat 1, .ofNat 1), none)), zyh1201)]
noncomputable def zyx17d : zKw := (263, 2, 3, 420, zyx17a, zyh1199, zyx17q)
noncomputable def zbzyx17e : Bool := zrunw zprog2 (zovW []) 100000 zcut0 3 420 kX8_passes (zkinL zyx17q) 0 (zargs 0 zyx17a, [], (zyh1199.1, zyh1199.2.1, 0), 0, 0)
/-! X8_passes -/
noncomputable def zyx18a : List zAV := [zyv318, zyv321]
noncomputable def zyx18q : List (Option zAV × zH) := [(some (.inl ((.ofNat 0, .ofNat 0), none)), zyh1203), (some (.inl ((.ofNat 1, .ofNat 1), none)), zyh1204)]
noncomputable def zyx18d : zKw := (263, 2, 3, 420, zyx18a, zyh1202, zyx18q)
noncomputable def zbzyx18e : Bool := zrunw zprog2 (zovW []) 100000 zcut0 3 420 kX8_passes (zkinL zyx18q) 0 (zargs 0 zyx18a, [], (zyh1202.1, zyh1202.2.1, 0), 0, 0)
/-! X8_passes -/
noncomputable def zyx19a : List zAV := [zyv318, zyv321]
noncomputable def zyx19q : List (Option zAV × zH) := [(some (.inl ((.ofNat 0, .ofNat 0), none)), zyh1206), (some (.inl ((.ofNat 1, .ofNat 1), none)), zyh1207)]
noncomputable def zyx19d : zKw := (263, 2, 3, 420, zyx19a, zyh1205, zyx19q)
noncomputable def zbzyx19e : Bool := zrunw zprog2 (zovW []) 100000 zcut0 3 420 kX8_passes (zkinL zyx19q) 0 (zargs 0 zyx19a, [], (zyh1205.1, zyh1205.2.1, 0), 0, 0)
/-! X8_passes -/
noncomputable def zyx20a : List zAV := [zyv318, zyv321]
noncomputable def zyx20q : List (Option zAV × zH) := [(some (.inl ((.ofNat 0, .ofNat 0), none)), zyh1209), (some (.inl ((.ofNat 1, .ofNat 1), none)), zyh1210)]
noncomputable def zyx20d : zKw := (263, 2, 3, 420, zyx20a, zyh1208, zyx20q)
noncomputable def zbzyx20e : Bool := zrunw zprog2 (zovW []) 100000 zcut0 3 420 kX8_passes (zkinL zyx20q) 0 (zargs 0 zyx20a, [], (zyh1208.1, zyh1208.2.1, 0), 0, 0)
/-! X8_passes -/
noncomputable def zyx21a : List zAV := [zyv318, zyv321]
noncomputable def zyx21q : List (Option zAV × zH) := [(some (.inl ((.ofNat 0, .ofNat 0), none)), zyh1212), (some (.inl ((.ofNat 1, .ofNat 1), none)), zyh1213)]
noncomputable def zyx21d : zKw := (263, 2, 3, 420, zyx21a, zyh1211, zyx21q)
noncomputable def zbzyx21e : Bool := zrunw zprog2 (zovW []) 100000 zcut0 3 420 kX8_passes (zkinL zyx21q) 0 (zargs 0 zyx21a, [], (zyh1211.1, zyh1211.2.1, 0), 0, 0)
/-! X8_passes -/
noncomputable def zyx22a : List zAV := [zyv318, zyv321]
noncomputable def zyx22q : List (Option zAV × zH) := [(some (.inl ((.ofNat 0, .ofNat 0), none)), zyh1215), (some (.inl ((.ofNat 1, .ofNat 1), none)), zyh1216)]
noncomputable def zyx22d : zKw := (263, 2, 3, 420, zyx22a, zyh1214, zyx22q)
noncomputable def zbzyx22e : Bool := zrunw zprog2 (zovW []) 100000 zcut0 3 420 kX8_passes (zkinL zyx22q) 0 (zargs 0 zyx22a, [], (zyh1214.1, zyh1214.2.1, 0), 0, 0)
/-! X8_passes -/
noncomputable def zyx23a : List zAV := [zyv318, zyv321]
noncomputable def zyx23q : List (Option zAV × zH) := [(some (.inl ((.ofNat 0, .ofNat 0), none)), zyh1218), (some (.inl ((.ofNat 1, .ofNat 1), none)), zyh1219)]
noncomputable def zyx23d : zKw := (263, 2, 3, 420, zyx23a, zyh1217, zyx23q)
noncomputable def zbzyx23e : Bool := zrunw zprog2 (zovW []) 100000 zcut0 3 420 kX8_passes (zkinL zyx23q) 0 (zargs 0 zyx23a, [], (zyh1217.1, zyh1217.2.1, 0), 0, 0)
/-! X8_passes -/
noncomputable def zyx24a : List zAV := [zyv318, zyv321]
noncomputable def zyx24q : List (Option zAV × zH) := [(some (.inl ((.ofNat 0, .ofNat 0), none)), zyh1221), (some (.inl ((.ofNat 1, .ofNat 1), none)), zyh1222)]
noncomputable def zyx24d : zKw := (263, 2, 3, 420, zyx24a, zyh1220, zyx24q)
noncomputable def zbzyx24e : Bool := zrunw zprog2 (zovW []) 100000 zcut0 3 420 kX8_passes (zkinL zyx24q) 0 (zargs 0 zyx24a, [], (zyh1220.1, zyh1220.2.1, 0), 0, 0)
/-! X8_passes -/
noncomputable def zyx25a : List zAV := [zyv318, zyv321]
noncomputable def zyx25q : List (Option zAV × zH) := [(some (.inl ((.ofNat 0, .ofNat 0), none)), zyh1224), (some (.inl ((.ofNat 1, .ofNat 1), none)), zyh1225)]
noncomputable def zyx25d : zKw := (263, 2, 3, 420, zyx25a, zyh1223, zyx25q)
noncomputable def zbzyx25e : Bool := zrunw zprog2 (zovW []) 100000 zcut0 3 420 kX8_passes (zkinL zyx25q) 0 (zargs 0 zyx25a, [], (zyh1223.1, zyh1223.2.1, 0), 0, 0)
/-! X8_passes -/
noncomputable def zyx26a : List zAV := [zyv318, zyv321]
noncomputable def zyx26q : List (Option zAV × zH) := [(some (.inl ((.ofNat 0, .ofNat 0), none)), zyh1227), (some (.inl ((.ofNat 1, .ofNat 1), none)), zyh1228)]
noncomputable def zyx26d : zKw := (263, 2, 3, 420, zyx26a, zyh1226, zyx26q)
noncomputable def zbzyx26e : Bool := zrunw zprog2 (zovW []) 100000 zcut0 3 420 kX8_passes (zkinL zyx26q) 0 (zargs 0 zyx26a, [], (zyh1226.1, zyh1226.2.1, 0), 0, 0)
/-! X8_passes -/
noncomputable def zyx27a : List zAV := [zyv318, zyv321]
noncomputable def zyx27q : List (Option zAV × zH) := [(some (.inl ((.ofNat 0, .ofNat 0), none)), zyh1230), (some (.inl ((.ofNat 1, .ofNat 1), none)), zyh1231)]
noncomputable def zyx27d : zKw := (263, 2, 3, 420, zyx27a, zyh1229, zyx27q)
noncomputable def zbzyx27e : Bool := zrunw zprog2 (zovW []) 100000 zcut0 3 420 kX8_passes (zkinL zyx27q) 0 (zargs 0 zyx27a, [], (zyh1229.1, zyh1229.2.1, 0), 0, 0)
/-! X8_passes -/
noncomputable def zyx28a : List zAV := [zyv318, zyv321]
noncomputable def zyx28q : List (Option zAV × zH) := [(some (.inl ((.ofNat 0, .ofNat 0), none)), zyh1233), (some (.inl ((.ofNat 1, .ofNat 1), none)), zyh1234)]
noncomputable def zyx28d : zKw := (263, 2, 3, 420, zyx28a, zyh1232, zyx28q)
noncomputable def zbzyx28e : Bool := zrunw zprog2 (zovW []) 100000 zcut0 3 420 kX8_passes (zkinL zyx28q) 0 (zargs 0 zyx28a, [], (zyh1232.1, zyh1232.2.1, 0), 0, 0)
/-! X8_passes -/
noncomputable def zyx29a : List zAV := [zyv318, zyv321]
noncomputable def zyx29q : List (Option zAV × zH) := [(some (.inl ((.ofNat 0, .ofNat 0), none)), zyh1236), (some (.inl ((.ofNat 1, .ofNat 1), none)), zyh1237)]
noncomputable def zyx29d : zKw := (263, 2, 3, 420, zyx29a, zyh1235, zyx29q)
noncomputable def zbzyx29e : Bool := zrunw zprog2 (zovW []) 100000 zcut0 3 420 kX8_passes (zkinL zyx29q) 0 (zargs 0 zyx29a, [], (zyh1235.1, zyh1235.2.1, 0), 0, 0)
/-! X8_passes -/
noncomputable def zyx30a : List zAV := [zyv318, zyv321]
noncomputable def zyx30q : List (Option zAV × zH) := [(some (.inl ((.ofNat 0, .ofNat 0), none)), zyh1239), (some (.inl ((.ofNat 1, .ofNat 1), none)), zyh1240)]
noncomputable def zyx30d : zKw := (263, 2, 3, 420, zyx30a, zyh1238, zyx30q)
noncomputable def zbzyx30e : Bool := zrunw zprog2 (zovW []) 100000 zcut0 3 420 kX8_passes (zkinL zyx30q) 0 (zargs 0 zyx30a, [], (zyh1238.1, zyh1238.2.1, 0), 0, 0)
/-! X8_passes -/
noncomputable def zyx31a : List zAV := [zyv318, zyv321]
noncomputable def zyx31q : List (Option zAV × zH) := [(some (.inl ((.ofNat 0, .ofNat 0), none)), zyh1242), (some (.inl ((.ofNat 1, .ofNat 1), none)), zyh1243)]
noncomputable def zyx31d : zKw := (263, 2, 3, 420, zyx31a, zyh1241, zyx31q)
noncomputable def zbzyx31e : Bool := zrunw zprog2 (zovW []) 100000 zcut0 3 420 kX8_passes (zkinL zyx31q) 0 (zargs 0 zyx31a, [], (zyh1241.1, zyh1241.2.1, 0), 0, 0)
/-! X8_passes -/
noncomputable def zyx32a : List zAV := [zyv318, zyv321]
noncomputable def zyx32q : List (Option zAV × zH) := [(some (.inl ((.ofNat 0, .ofNat 0), none)), zyh1245), (some (.inl ((.ofNat 1, .ofNat 1), none)), zyh1246)]
noncomputable def zyx32d : zKw := (263, 2, 3, 420, zyx32a, zyh1244, zyx32q)
noncomputable def zbzyx32e : Bool := zrunw zprog2 (zovW []) 100000 zcut0 3 420 kX8_passes (zkinL zyx32q) 0 (zargs 0 zyx32a, [], (zyh1244.1, zyh1244.2.1, 0), 0, 0)
/-! X8_passes -/
noncomputable def zyx33a : List zAV := [zyv318, zyv321]
noncomputable def zyx33q : List (Option zAV × zH) := [(some (.inl ((.ofNat 0, .ofNat 0), none)), zyh1248), (some (.inl ((.ofNat 1, .ofNat 1), none)), zyh1249)]
noncomputable def zyx33d : zKw := (263, 2, 3, 420, zyx33a, zyh1247, zyx33q)
noncomputable def zbzyx33e : Bool := zrunw zprog2 (zovW []) 100000 zcut0 3 420 kX8_passes (zkinL zyx33q) 0 (zargs 0 zyx33a, [], (zyh1247.1, zyh1247.2.1, 0), 0, 0)
/-! X8_passes -/
noncomputable def zyx34a : List zAV := [zyv318, zyv321]
noncomputable def zyx34q : List (Option zAV × zH) := [(some (.inl ((.ofNat 0, .ofNat 0), none)), zyh1251), (some (.inl ((.ofNat 1, .ofNat 1), none)), zyh1252)]
noncomputable def zyx34d : zKw := (263, 2, 3, 420, zyx34a, zyh1250, zyx34q)
noncomputable def zbzyx34e : Bool := zrunw zprog2 (zovW []) 100000 zcut0 3 420 kX8_passes (zkinL zyx34q) 0 (zargs 0 zyx34a, [], (zyh1250.1, zyh1250.2.1, 0), 0, 0)
/-! X8_passes -/
noncomputable def zyx35a : List zAV := [zyv318, zyv321]
noncomputable def zyx35q : List (Option zAV × zH) := [(some (.inl ((.ofNat 0, .ofNat 0), none)), zyh1254), (some (.inl ((.ofNat 1, .ofNat 1), none)), zyh1255)]
noncomputable def zyx35d : zKw := (263, 2, 3, 420, zyx35a, zyh1253, zyx35q)
noncomputable def zbzyx35e : Bool := zrunw zprog2 (zovW []) 100000 zcut0 3 420 kX8_passes (zkinL zyx35q) 0 (zargs 0 zyx35a, [], (zyh1253.1, zyh1253.2.1, 0), 0, 0)
/-! X8_passes -/
noncomputable def zyx36a : List zAV := [zyv318, zyv321]
noncomputable def zyx36q : List (Option zAV × zH) := [(some (.inl ((.ofNat 0, .ofNat 0), none)), zyh1257), (some (.inl ((.ofNat 1, .ofNat 1), none)), zyh1258)]
noncomputable def zyx36d : zKw := (263, 2, 3, 420, zyx36a, zyh1256, zyx36q)
noncomputable def zbzyx36e : Bool := zrunw zprog2 (zovW []) 100000 zcut0 3 420 kX8_passes (zkinL zyx36q) 0 (zargs 0 zyx36a, [], (zyh1256.1, zyh1256.2.1, 0), 0, 0)
/-! X8_passes -/
noncomputable def zyx37a : List zAV := [zyv318, zyv321]
noncomputable def zyx37q : List (Option zAV × zH) := [(some (.inl ((.ofNat 0, .ofNat 0), none)), zyh1260), (some (.inl ((.ofNat 1, .ofNat 1), none)), zyh1261)]
noncomputable def zyx37d : zKw := (263, 2, 3, 420, zyx37a, zyh1259, zyx37q)
noncomputable def zbzyx37e : Bool := zrunw zprog2 (zovW []) 100000 zcut0 3 420 kX8_passes (zkinL zyx37q) 0 (zargs 0 zyx37a, [], (zyh1259.1, zyh1259.2.1, 0), 0, 0)
/-! X8_passes -/
noncomputable def zyx38a : List zAV := [zyv318, zyv321]
noncomputable def zyx38q : List (Option zAV × zH) := [(some (.inl ((.ofNat 0, .ofNat 0), none)), zyh1263), (some (.inl ((.ofNat 1, .ofNat 1), none)), zyh1264)]
noncomputable def zyx38d : zKw := (263, 2, 3, 420, zyx38a, zyh1262, zyx38q)
noncomputable def zbzyx38e : Bool := zrunw zprog2 (zovW []) 100000 zcut0 3 420 kX8_passes (zkinL zyx38q) 0 (zargs 0 zyx38a, [], (zyh1262.1, zyh1262.2.1, 0), 0, 0)
/-! X8_passes -/
noncomputable def zyx39a : List zAV := [zyv318, zyv321]
noncomputable def zyx39q : List (Option zAV × zH) := [(some (.inl ((.ofNat 0, .ofNat 0), none)), zyh1266), (some (.inl ((.ofNat 1, .ofNat 1), none)), zyh1267)]
noncomputable def zyx39d : zKw := (263, 2, 3, 420, zyx39a, zyh1265, zyx39q)
noncomputable def zbzyx39e : Bool := zrunw zprog2 (zovW []) 100000 zcut0 3 420 kX8_passes (zkinL zyx39q) 0 (zargs 0 zyx39a, [], (zyh1265.1, zyh1265.2.1, 0), 0, 0)
/-! X8_passes -/
noncomputable def zyx40a : List zAV := [zyv318, zyv321]
noncomputable def zyx40q : List (Option zAV × zH) := [(some (.inl ((.ofNat 0, .ofNat 0), none)), zyh1269), (some (.inl ((.ofNat 1, .ofNat 1), none)), zyh1270)]
noncomputable def zyx40d : zKw := (263, 2, 3, 420, zyx40a, zyh1268, zyx40q)
noncomputable def zbzyx40e : Bool := zrunw zprog2 (zovW []) 100000 zcut0 3 420 kX8_passes (zkinL zyx40q) 0 (zargs 0 zyx40a, [], (zyh1268.1, zyh1268.2.1, 0), 0, 0)
/-! X8_passes -/
noncomputable def zyx41a : List zAV := [zyv318, zyv321]
noncomputable def zyx41q : List (Option zAV × zH) := [(some (.inl ((.ofNat 0, .ofNat 0), none)), zyh1272), (some (.inl ((.ofNat 1, .ofNat 1), none)), zyh1273)]
noncomputable def zyx41d : zKw := (263, 2, 3, 420, zyx41a, zyh1271, zyx41q)
noncomputable def zbzyx41e : Bool := zrunw zprog2 (zovW []) 100000 zcut0 3 420 kX8_passes (zkinL zyx41q) 0 (zargs 0 zyx41a, [], (zyh1271.1, zyh1271.2.1, 0), 0, 0)
/-! X8_passes -/
noncomputable def zyx42a : List zAV := [zyv318, zyv321]
noncomputable def zyx42q : List (Option zAV × zH) := [(some (.inl ((.ofNat 0, .ofNat 0), none)), zyh1275), (some (.inl ((.ofNat 1, .ofNat 1), none)), zyh1276)]
noncomputable def zyx42d : zKw := (263, 2, 3, 420, zyx42a, zyh1274, zyx42q)
noncomputable def zbzyx42e : Bool := zrunw zprog2 (zovW []) 100000 zcut0 3 420 kX8_passes (zkinL zyx42q) 0 (zargs 0 zyx42a, [], (zyh1274.1, zyh1274.2.1, 0), 0, 0)
/-! X8_passes -/
noncomputable def zyx43a : List zAV := [zyv318, zyv321]
noncomputable def zyx43q : List (Option zAV × zH) := [(some (.inl ((.ofNat 0, .ofNat 0), none)), zyh1278), (some (.inl ((.ofNat 1, .ofNat 1), none)), zyh1279)]
noncomputable def zyx43d : zKw := (263, 2, 3, 420, zyx43a, zyh1277, zyx43q)
noncomputable def zbzyx43e : Bool := zrunw zprog2 (zovW []) 100000 zcut0 3 420 kX8_passes (zkinL zyx43q) 0 (zargs 0 zyx43a, [], (zyh1277.1, zyh1277.2.1, 0), 0, 0)
/-! X8_passes -/
noncomputable def zyx44a : List zAV := [zyv318, zyv321]
noncomputable def zyx44q : List (Option zAV × zH) := [(some (.inl ((.ofNat 0, .ofNat 0), none)), zyh1281), (some (.inl ((.ofNat 1, .ofNat 1), none)), zyh1282)]
noncomputable def zyx44d : zKw := (263, 2, 3, 420, zyx44a, zyh1280, zyx44q)
noncomputable def zbzyx44e : Bool := zrunw zprog2 (zovW []) 100000 zcut0 3 420 kX8_passes (zkinL zyx44q) 0 (zargs 0 zyx44a, [], (zyh1280.1, zyh1280.2.1, 0), 0, 0)
/-! X8_passes -/
noncomputable def zyx45a : List zAV := [zyv318, zyv321]
noncomputable def zyx45q : List (Option zAV × zH) := [(some (.inl ((.ofNat 0, .ofNat 0), none)), zyh1284), (some (.inl ((.ofNat 1, .ofNat 1), none)), zyh1285)]
noncomputable def zyx45d : zKw := (263, 2, 3, 420, zyx45a, zyh1283, zyx45q)
noncomputable def zbzyx45e : Bool := zrunw zprog2 (zovW []) 100000 zcut0 3 420 kX8_passes (zkinL zyx45q) 0 (zargs 0 zyx45a, [], (zyh1283.1, zyh1283.2.1, 0), 0, 0)
/-! X8_passes -/
noncomputable def zyx46a : List zAV := [zyv318, zyv321]
noncomputable def zyx46q : List (Option zAV × zH) := [(some (.inl ((.ofNat 0, .ofNat 0), none)), zyh1287), (some (.inl ((.ofNat 1, .ofNat 1), none)), zyh1288)]
noncomputable def zyx46d : zKw := (263, 2, 3, 420, zyx46a, zyh1286, zyx46q)
noncomputable def zbzyx46e : Bool := zrunw zprog2 (zovW []) 100000 zcut0 3 420 kX8_passes (zkinL zyx46q) 0 (zargs 0 zyx46a, [], (zyh1286.1, zyh1286.2.1, 0), 0, 0)
/-! X8_passes -/
noncomputable def zyx47a : List zAV := [zyv318, zyv321]
noncomputable def zyx47q : List (Option zAV × zH) := [(some (.inl ((.ofNat 0, .ofNat 0), none)), zyh1290), (some (.inl ((.ofNat 1, .ofNat 1), none)), zyh1291)]
noncomputable def zyx47d : zKw := (263, 2, 3, 420, zyx47a, zyh1289, zyx47q)
noncomputable def zbzyx47e : Bool := zrunw zprog2 (zovW []) 100000 zcut0 3 420 kX8_passes (zkinL zyx47q) 0 (zargs 0 zyx47a, [], (zyh1289.1, zyh1289.2.1, 0), 0, 0)
/-! X8_passes -/
noncomputable def zyx48a : List zAV := [zyv318, zyv321]
noncomputable def zyx48q : List (Option zAV × zH) := [(some (.inl ((.ofNat 0, .ofNat 0), none)), zyh1293), (some (.inl ((.ofNat 1, .ofNat 1), none)), zyh1294)]
noncomputable def zyx48d : zKw := (263, 2, 3, 420, zyx48a, zyh1292, zyx48q)
noncomputable def zbzyx48e : Bool := zrunw zprog2 (zovW []) 100000 zcut0 3 420 kX8_passes (zkinL zyx48q) 0 (zargs 0 zyx48a, [], (zyh1292.1, zyh1292.2.1, 0), 0, 0)
/-! X8_passes -/
noncomputable def zyx49a : List zAV := [zyv318, zyv321]
noncomputable def zyx49q : List (Option zAV × zH) := [(some (.inl ((.ofNat 0, .ofNat 0), none)), zyh1296), (some (.inl ((.ofNat 1, .ofNat 1), none)), zyh1297)]
noncomputable def zyx49d : zKw := (263, 2, 3, 420, zyx49a, zyh1295, zyx49q)
noncomputable def zbzyx49e : Bool := zrunw zprog2 (zovW []) 100000 zcut0 3 420 kX8_passes (zkinL zyx49q) 0 (zargs 0 zyx49a, [], (zyh1295.1, zyh1295.2.1, 0), 0, 0)
/-! X8_passes -/
noncomputable def zyx50a : List zAV := [zyv318, zyv321]
noncomputable def zyx50q : List (Option zAV × zH) := [(some (.inl ((.ofNat 0, .ofNat 0), none)), zyh1299), (some (.inl ((.ofNat 1, .ofNat 1), none)), zyh1300)]
noncomputable def zyx50d : zKw := (263, 2, 3, 420, zyx50a, zyh1298, zyx50q)
noncomputable def zbzyx50e : Bool := zrunw zprog2 (zovW []) 100000 zcut0 3 420 kX8_passes (zkinL zyx50q) 0 (zargs 0 zyx50a, [], (zyh1298.1, zyh1298.2.1, 0), 0, 0)
/-! X8_passes -/
noncomputable def zyx51a : List zAV := [zyv318, zyv321]
noncomputable def zyx51q : List (Option zAV × zH) := [(some (.inl ((.ofNat 0, .ofNat 0), none)), zyh1302), (some (.inl ((.ofNat 1, .ofNat 1), none)), zyh1303)]
noncomputable def zyx51d : zKw := (263, 2, 3, 420, zyx51a, zyh1301, zyx51q)
noncomputable def zbzyx51e : Bool := zrunw zprog2 (zovW []) 100000 zcut0 3 420 kX8_passes (zkinL zyx51q) 0 (zargs 0 zyx51a, [], (zyh1301.1, zyh1301.2.1, 0), 0, 0)
/-! X8_passes -/
noncomputable def zyx52a : List zAV := [zyv318, zyv321]
noncomputable def zyx52q : List (Option zAV × zH) := [(some (.inl ((.ofNat 0, .ofNat 0), none)), zyh1305), (some (.inl ((.ofNat 1, .ofNat 1), none)), zyh1306)]
noncomputable def zyx52d : zKw := (263, 2, 3, 420, zyx52a, zyh1304, zyx52q)
noncomputable def zbzyx52e : Bool := zrunw zprog2 (zovW []) 100000 zcut0 3 420 kX8_passes (zkinL zyx52q) 0 (zargs 0 zyx52a, [], (zyh1304.1, zyh1304.2.1, 0), 0, 0)
/-! X8_passes -/
noncomputable def zyx53a : List zAV := [zyv318, zyv321]
noncomputable def zyx53q : List (Option zAV × zH) := [(some (.inl ((.ofNat 0, .ofNat 0), none)), zyh1308), (some (.inl ((.ofNat 1, .ofNat 1), none)), zyh1309)]
noncomputable def zyx53d : zKw := (263, 2, 3, 420, zyx53a, zyh1307, zyx53q)
noncomputable def zbzyx53e : Bool := zrunw zprog2 (zovW []) 100000 zcut0 3 420 kX8_passes (zkinL zyx53q) 0 (zargs 0 zyx53a, [], (zyh1307.1, zyh1307.2.1, 0), 0, 0)
/-! X8_passes -/
noncomputable def zyx54a : List zAV := [zyv318, zyv321]
noncomputable def zyx54q : List (Option zAV × zH) := [(some (.inl ((.ofNat 0, .ofNat 0), none)), zyh1311), (some (.inl ((.ofNat 1, .ofNat 1), none)), zyh1312)]
noncomputable def zyx54d : zKw := (263, 2, 3, 420, zyx54a, zyh1310, zyx54q)
noncomputable def zbzyx54e : Bool := zrunw zprog2 (zovW []) 100000 zcut0 3 420 kX8_passes (zkinL zyx54q) 0 (zargs 0 zyx54a, [], (zyh1310.1, zyh1310.2.1, 0), 0, 0)
/-! X8_passes -/
noncomputable def zyx55a : List zAV := [zyv318, zyv321]
noncomputable def zyx55q : List (Option zAV × zH) := [(some (.inl ((.ofNat 0, .ofNat 0), none)), zyh1314)]
noncomputable def zyx55d : zKw := (263, 2, 3, 420, zyx55a, zyh1313, zyx55q)
noncomputable def zbzyx55e : Bool := zrunw zprog2 (zovW []) 100000 zcut0 3 420 kX8_passes (zkinL zyx55q) 0 (zargs 0 zyx55a, [], (zyh1313.1, zyh1313.2.1, 0), 0, 0)
/-! X8_thing -/
noncomputable def zyx56a : List zAV := [.inr (.inr (.inl 94)), .inl ((.ofNat 0, .ofNat 4), none)]
def zyx56r : Option zAV := some (.inl ((.negSucc 2147483647, .ofNat 2147483647), none))
noncomputable def zyx56d : zKw := (292, 4, 4, 540, zyx56a, zyh1313, [(zyx56r, zyh1314)])
noncomputable def zbzyx56e : Bool := zrunw zprog2 (zovW [zyx55d]) 100000 (zcutW [] none ((zyx56r, zyh1314), 4, 540) []) 4 540 k2X8_thing (zkin zyx56r zyh1314) 0 (zargs 0 zyx56a, [], (zyh1313.1, zyh1313.2.1, 0), 0, 0)
/-! X8_product ((('r', 99), 40, 40),) -/
noncomputable def zyx57a : List zAV := [.inr (.inr (.inl 94)), .inl ((.ofNat 0, .ofNat 4), none)]
def zyx57r : Option zAV := some (.inl ((.negSucc 2147483647, .ofNat 2147483647), none))
noncomputable def zyx57q : zPw := ((6, ([(0, .inr (.inr (.inl 94))), (1, .inl ((.ofNat 0, .ofNat 4), some (1, .ofNat 0))), (2, .inl ((.negSucc 2147483647, .ofNat 2147483647), some (2, .ofNat 0)))], [], zyh1314, 0, 0), [], 0), (zyx57r, zyh1314), 5, 660)
noncomputable def zbzyx57c : Bool := zchkX [(94, 15)] zprog2 (zovW [zyx56d]) 100000 k2X8_product [] [zyx57q] [zyx57q]
noncomputable def zyx57d : zKw := (265, 5, 5, 660, zyx57a, zyh1313, [(zyx57r, zyh1314)])
noncomputable def zbzyx57e : Bool := zrunw zprog2 (zovW [zyx56d]) 100000 (zcutW [(94, 15)] none ((zyx57r, zyh1314), 5, 660) [zyx57q]) 5 660 k2X8_product (zkin zyx57r zyh1314) 0 (zargs 0 zyx57a, [], (zyh1313.1, zyh1313.2.1, 0), 0, 0)
/-! X8_sum ((('r', 99), 40, 40),) -/
noncomputable def zyx58a : List zAV := [.inr (.inr (.inl 94)), .inl ((.ofNat 1, .ofNat 4), none)]
def zyx58r : Option zAV := some (.inl ((.negSucc 2147483647, .ofNat 2147483647), none))
noncomputable def zyx58q : zPw := ((6, ([(0, .inr (.inr (.inl 94))), (1, .inl ((.ofNat 0, .ofNat 4), some (1, .ofNat 0))), (2, .inl ((.negSucc 2147483647, .ofNat 2147483647), some (2, .ofNat 0)))], [], zyh1314, 0, 0), [], 0), (zyx58r, zyh1314), 6, 780)
noncomputable def zbzyx58c : Bool := zchkX [(94, 15)] zprog2 (zovW [zyx57d]) 100000 kX8_sum [] [zyx58q] [zyx58q]
noncomputable def zyx58d : zKw := (284, 5, 6, 780, zyx58a, zyh1313, [(zyx58r, zyh1314)])
noncomputable def zbzyx58e : Bool := zrunw zprog2 (zovW [zyx57d]) 100000 (zcutW [(94, 15)] none ((zyx58r, zyh1314), 6, 780) [zyx58q]) 6 780 kX8_sum (zkin zyx58r zyh1314) 0 (zargs 0 zyx58a, [], (zyh1313.1, zyh1313.2.1, 0), 0, 0)
/-! X8_heldBy -/
noncomputable def zyx59a : List zAV := [.inr (.inr (.inl 94)), .inl ((.ofNat 1, .ofNat 4), none)]
def zyx59r : Option zAV := some (.inl ((.negSucc 2147483647, .ofNat 2147483647), none))
noncomputable def zyx59d : zKw := (229, 3, 7, 900, zyx59a, zyh1313, [(zyx59r, zyh1314)])
noncomputable def zbzyx59e : Bool := zrunw zprog2 (zovW [zyx58d, zyx55d]) 100000 (zcutW [] none ((zyx59r, zyh1314), 7, 900) []) 7 900 kX8_heldBy (zkin zyx59r zyh1314) 0 (zargs 0 zyx59a, [], (zyh1313.1, zyh1313.2.1, 0), 0, 0)
/-! X8_oneOf -/
noncomputable def zyx60a : List zAV := [zyv318, zyv360, zyv361]
noncomputable def zyx60q : List (Option zAV × zH) := [(some (.inl ((.ofNat 0, .ofNat 0), none)), zyh1315), (some (.inl ((.negSucc 175, .ofNat 79), none)), zyh1312)]
noncomputable def zyx60d : zKw := (260, 3, 4, 480, zyx60a, zyh1310, zyx60q)
noncomputable def zbzyx60e : Bool := zrunw zprog2 (zovW []) 100000 zcut0 4 480 kX8_oneOf (zkinL zyx60q) 0 (zargs 0 zyx60a, [], (zyh1310.1, zyh1310.2.1, 0), 0, 0)
/-! X8_number -/
noncomputable def zyx61a : List zAV := [.inr (.inr (.inl 94)), .inl ((.ofNat 3, .ofNat 3), none)]
def zyx61r : Option zAV := some (.inl ((.negSucc 2147483647, .ofNat 2147483647), none))
noncomputable def zyx61q0 : zPw := ((11, ([(0, .inr (.inr (.inl 94))), (1, .inl ((.ofNat 3, .ofNat 3), some (1, .ofNat 0))), (2, .inl ((.negSucc 2147483647, .ofNat 2147483647), some (2, .ofNat 0))), (3, .inl ((.ofNat 1, .ofNat 3), some (3, .ofNat 0)))], [], zyh1311, 0, 0), [(3, .negSucc 1)], .ofNat 7), (zyx61r, zyh1311), 5, 600)
noncomputable def zbzyx61c0 : Bool := zchkX [] zprog2 (zovW [zyx60d]) 100000 kX8_number [] [zyx61q0] [zyx61q0]
noncomputable def zyx61d : zKw := (259, 4, 5, 600, zyx61a, zyh1310, [(zyx61r, zyh1311)])
noncomputable def zbzyx61e : Bool := zrunw zprog2 (zovW [zyx60d]) 100000 (zcutW [] none ((zyx61r, zyh1311), 5, 600) [zyx61q0]) 5 600 kX8_number (zkin zyx61r zyh1311) 0 (zargs 0 zyx61a, [], (zyh1310.1, zyh1310.2.1, 0), 0, 0)
/-! X8_thing -/
noncomputable def zyx62a : List zAV := [.inr (.inr (.inl 94)), .inl ((.ofNat 0, .ofNat 4), none)]
def zyx62r : Option zAV := some (.inl ((.negSucc 2147483647, .ofNat 2147483647), none))
noncomputable def zyx62d : zKw := (292, 4, 8, 1020, zyx62a, zyh1310, [(zyx62r, zyh1311)])
noncomputable def zbzyx62e : Bool := zrunw zprog2 (zovW [zyx59d, zyx56d, zyx55d, zyx61d, zyx54d]) 100000 (zcutW [] none ((zyx62r, zyh1311), 8, 1020) []) 8 1020 k2X8_thing (zkin zyx62r zyh1311) 0 (zargs 0 zyx62a, [], (zyh1310.1, zyh1310.2.1, 0), 0, 0)
/-! X8_product ((('r', 99), 40, 39),) -/
noncomputable def zyx63a : List zAV := [.inr (.inr (.inl 94)), .inl ((.ofNat 0, .ofNat 4), none)]
def zyx63r : Option zAV := some (.inl ((.negSucc 2147483647, .ofNat 2147483647), none))
noncomputable def zyx63q : zPw := ((6, ([(0, .inr (.inr (.inl 94))), (1, .inl ((.ofNat 0, .ofNat 4), some (1, .ofNat 0))), (2, .inl ((.negSucc 2147483647, .ofNat 2147483647), some (2, .ofNat 0)))], [], zyh1311, 0, 0), [], 0), (zyx63r, zyh1311), 9, 1140)
noncomputable def zbzyx63c : Bool := zchkX [(94, 15)] zprog2 (zovW [zyx56d, zyx62d]) 100000 k2X8_product [zyx57q] [zyx63q] [zyx63q]
noncomputable def zyx63d : zKw := (265, 5, 9, 1140, zyx63a, zyh1310, [(zyx63r, zyh1311)])
noncomputable def zbzyx63e : Bool := zrunw zprog2 (zovW [zyx56d, zyx62d]) 100000 (zcutW [(94, 15)] none ((zyx63r, zyh1311), 9, 1140) [zyx63q, zyx57q]) 9 1140 k2X8_product (zkin zyx63r zyh1311) 0 (zargs 0 zyx63a, [], (zyh1310.1, zyh1310.2.1, 0), 0, 0)
/-! X8_sum ((('r', 99), 40, 39),) -/
noncomputable def zyx64a : List zAV := [.inr (.inr (.inl 94)), .inl ((.ofNat 1, .ofNat 4), none)]
def zyx64r : Option zAV := some (.inl ((.negSucc 2147483647, .ofNat 2147483647), none))
noncomputable def zyx64q : zPw := ((6, ([(0, .inr (.inr (.inl 94))), (1, .inl ((.ofNat 0, .ofNat 4), some (1, .ofNat 0))), (2, .inl ((.negSucc 2147483647, .ofNat 2147483647), some (2, .ofNat 0)))], [], zyh1311, 0, 0), [], 0), (zyx64r, zyh1311), 10, 1260)
noncomputable def zbzyx64c : Bool := zchkX [(94, 15)] zprog2 (zovW [zyx57d, zyx63d]) 100000 kX8_sum [zyx58q] [zyx64q] [zyx64q]
noncomputable def zyx64d : zKw := (284, 5, 10, 1260, zyx64a, zyh1310, [(zyx64r, zyh1311)])
noncomputable def zbzyx64e : Bool := zrunw zprog2 (zovW [zyx57d, zyx63d]) 100000 (zcutW [(94, 15)] none ((zyx64r, zyh1311), 10, 1260) [zyx64q, zyx58q]) 10 1260 kX8_sum (zkin zyx64r zyh1311) 0 (zargs 0 zyx64a, [], (zyh1310.1, zyh1310.2.1, 0), 0, 0)
/-! X8_heldBy -/
noncomputable def zyx65a : List zAV := [.inr (.inr (.inl 94)), .inl ((.ofNat 1, .ofNat 4), none)]
def zyx65r : Option zAV := some (.inl ((.negSucc 2147483647, .ofNat 2147483647), none))
noncomputable def zyx65d : zKw := (229, 3, 11, 1380, zyx65a, zyh1310, [(zyx65r, zyh1311)])
noncomputable def zbzyx65e : Bool := zrunw zprog2 (zovW [zyx58d, zyx64d, zyx54d]) 100000 (zcutW [] none ((zyx65r, zyh1311), 11, 1380) []) 11 1380 kX8_heldBy (zkin zyx65r zyh1311) 0 (zargs 0 zyx65a, [], (zyh1310.1, zyh1310.2.1, 0), 0, 0)
/-! X8_oneOf -/
noncomputable def zyx66a : List zAV := [zyv318, zyv360, zyv361]
noncomputable def zyx66q : List (Option zAV × zH) := [(some (.inl ((.ofNat 0, .ofNat 0), none)), zyh1316), (some (.inl ((.negSucc 175, .ofNat 79), none)), zyh1309)]
noncomputable def zyx66d : zKw := (260, 3, 4, 480, zyx66a, zyh1307, zyx66q)
noncomputable def zbzyx66e : Bool := zrunw zprog2 (zovW []) 100000 zcut0 4 480 kX8_oneOf (zkinL zyx66q) 0 (zargs 0 zyx66a, [], (zyh1307.1, zyh1307.2.1, 0), 0, 0)
/-! X8_number -/
noncomputable def zyx67a : List zAV := [.inr (.inr (.inl 94)), .inl ((.ofNat 3, .ofNat 3), none)]
def zyx67r : Option zAV := some (.inl ((.negSucc 2147483647, .ofNat 2147483647), none))
noncomputable def zyx67q0 : zPw := ((11, ([(0, .inr (.inr (.inl 94))), (1, .inl ((.ofNat 3, .ofNat 3), some (1, .ofNat 0))), (2, .inl ((.negSucc 2147483647, .ofNat 2147483647), some (2, .ofNat 0))), (3, .inl ((.ofNat 1, .ofNat 3), some (3, .ofNat 0)))], [], zyh1308, 0, 0), [(3, .negSucc 1)], .ofNat 7), (zyx67r, zyh1308), 5, 600)
noncomputable def zbzyx67c0 : Bool := zchkX [] zprog2 (zovW [zyx66d]) 100000 kX8_number [] [zyx67q0] [zyx67q0]
noncomputable def zyx67d : zKw := (259, 4, 5, 600, zyx67a, zyh1307, [(zyx67r, zyh1308)])
noncomputable def zbzyx67e : Bool := zrunw zprog2 (zovW [zyx66d]) 100000 (zcutW [] none ((zyx67r, zyh1308), 5, 600) [zyx67q0]) 5 600 kX8_number (zkin zyx67r zyh1308) 0 (zargs 0 zyx67a, [], (zyh1307.1, zyh1307.2.1, 0), 0, 0)
/-! X8_thing -/
noncomputable def zyx68a : List zAV := [.inr (.inr (.inl 94)), .inl ((.ofNat 0, .ofNat 4), none)]
def zyx68r : Option zAV := some (.inl ((.negSucc 2147483647, .ofNat 2147483647), none))
noncomputable def zyx68d : zKw := (292, 4, 12, 1500, zyx68a, zyh1307, [(zyx68r, zyh1308)])
noncomputable def zbzyx68e : Bool := zrunw zprog2 (zovW [zyx65d, zyx62d, zyx54d, zyx67d, zyx53d]) 100000 (zcutW [] none ((zyx68r, zyh1308), 12, 1500) []) 12 1500 k2X8_thing (zkin zyx68r zyh1308) 0 (zargs 0 zyx68a, [], (zyh1307.1, zyh1307.2.1, 0), 0, 0)
/-! X8_product ((('r', 99), 40, 38),) -/
noncomputable def zyx69a : List zAV := [.inr (.inr (.inl 94)), .inl ((.ofNat 0, .ofNat 4), none)]
def zyx69r : Option zAV := some (.inl ((.negSucc 2147483647, .ofNat 2147483647), none))
noncomputable def zyx69q : zPw := ((6, ([(0, .inr (.inr (.inl 94))), (1, .inl ((.ofNat 0, .ofNat 4), some (1, .ofNat 0))), (2, .inl ((.negSucc 2147483647, .ofNat 2147483647), some (2, .ofNat 0)))], [], zyh1308, 0, 0), [], 0), (zyx69r, zyh1308), 13, 1620)
noncomputable def zbzyx69c : Bool := zchkX [(94, 15)] zprog2 (zovW [zyx62d, zyx68d]) 100000 k2X8_product [zyx63q, zyx57q] [zyx69q] [zyx69q]
noncomputable def zyx69d : zKw := (265, 5, 13, 1620, zyx69a, zyh1307, [(zyx69r, zyh1308)])
noncomputable def zbzyx69e : Bool := zrunw zprog2 (zovW [zyx62d, zyx68d]) 100000 (zcutW [(94, 15)] none ((zyx69r, zyh1308), 13, 1620) [zyx69q, zyx63q, zyx57q]) 13 1620 k2X8_product (zkin zyx69r zyh1308) 0 (zargs 0 zyx69a, [], (zyh1307.1, zyh1307.2.1, 0), 0, 0)
/-! X8_sum ((('r', 99), 40, 38),) -/
noncomputable def zyx70a : List zAV := [.inr (.inr (.inl 94)), .inl ((.ofNat 1, .ofNat 4), none)]
def zyx70r : Option zAV := some (.inl ((.negSucc 2147483647, .ofNat 2147483647), none))
noncomputable def zyx70q : zPw := ((6, ([(0, .inr (.inr (.inl 94))), (1, .inl ((.ofNat 0, .ofNat 4), some (1, .ofNat 0))), (2, .inl ((.negSucc 2147483647, .ofNat 2147483647), some (2, .ofNat 0)))], [], zyh1308, 0, 0), [], 0), (zyx70r, zyh1308), 14, 1740)
noncomputable def zbzyx70c : Bool := zchkX [(94, 15)] zprog2 (zovW [zyx63d, zyx69d]) 100000 kX8_sum [zyx64q, zyx58q] [zyx70q] [zyx70q]
noncomputable def zyx70d : zKw := (284, 5, 14, 1740, zyx70a, zyh1307, [(zyx70r, zyh1308)])
noncomputable def zbzyx70e : Bool := zrunw zprog2 (zovW [zyx63d, zyx69d]) 100000 (zcutW [(94, 15)] none ((zyx70r, zyh1308), 14, 1740) [zyx70q, zyx64q, zyx58q]) 14 1740 kX8_sum (zkin zyx70r zyh1308) 0 (zargs 0 zyx70a, [], (zyh1307.1, zyh1307.2.1, 0), 0, 0)
/-! X8_heldBy -/
noncomputable def zyx71a : List zAV := [.inr (.inr (.inl 94)), .inl ((.ofNat 1, .ofNat 4), none)]
def zyx71r : Option zAV := some (.inl ((.negSucc 2147483647, .ofNat 2147483647), none))
noncomputable def zyx71d : zKw := (229, 3, 15, 1860, zyx71a, zyh1307, [(zyx71r, zyh1308)])
noncomputable def zbzyx71e : Bool := zrunw zprog2 (zovW [zyx64d, zyx70d, zyx53d]) 100000 (zcutW [] none ((zyx71r, zyh1308), 15, 1860) []) 15 1860 kX8_heldBy (zkin zyx71r zyh1308) 0 (zargs 0 zyx71a, [], (zyh1307.1, zyh1307.2.1, 0), 0, 0)
/-! X8_oneOf -/
noncomputable def zyx72a : List zAV := [zyv318, zyv360, zyv361]
noncomputable def zyx72q : List (Option zAV × zH) := [(some (.inl ((.ofNat 0, .ofNat 0), none)), zyh1317), (some (.inl ((.negSucc 175, .ofNat 79), none)), zyh1306)]
noncomputable def zyx72d : zKw := (260, 3, 4, 480, zyx72a, zyh1304, zyx72q)
noncomputable def zbzyx72e : Bool := zrunw zprog2 (zovW []) 100000 zcut0 4 480 kX8_oneOf (zkinL zyx72q) 0 (zargs 0 zyx72a, [], (zyh1304.1, zyh1304.2.1, 0), 0, 0)
/-! X8_number -/
noncomputable def zyx73a : List zAV := [.inr (.inr (.inl 94)), .inl ((.ofNat 3, .ofNat 3), none)]
def zyx73r : Option zAV := some (.inl ((.negSucc 2147483647, .ofNat 2147483647), none))
noncomputable def zyx73q0 : zPw := ((11, ([(0, .inr (.inr (.inl 94))), (1, .inl ((.ofNat 3, .ofNat 3), some (1, .ofNat 0))), (2, .inl ((.negSucc 2147483647, .ofNat 2147483647), some (2, .ofNat 0))), (3, .inl ((.ofNat 1, .ofNat 3), some (3, .ofNat 0)))], [], zyh1305, 0, 0), [(3, .negSucc 1)], .ofNat 7), (zyx73r, zyh1305), 5, 600)
noncomputable def zbzyx73c0 : Bool := zchkX [] zprog2 (zovW [zyx72d]) 100000 kX8_number [] [zyx73q0] [zyx73q0]
noncomputable def zyx73d : zKw := (259, 4, 5, 600, zyx73a, zyh1304, [(zyx73r, zyh1305)])
noncomputable def zbzyx73e : Bool := zrunw zprog2 (zovW [zyx72d]) 100000 (zcutW [] none ((zyx73r, zyh1305), 5, 600) [zyx73q0]) 5 600 kX8_number (zkin zyx73r zyh1305) 0 (zargs 0 zyx73a, [], (zyh1304.1, zyh1304.2.1, 0), 0, 0)
/-! X8_thing -/
noncomputable def zyx74a : List zAV := [.inr (.inr (.inl 94)), .inl ((.ofNat 0, .ofNat 4), none)]
def zyx74r : Option zAV := some (.inl ((.negSucc 2147483647, .ofNat 2147483647), none))
noncomputable def zyx74d : zKw := (292, 4, 16, 1980, zyx74a, zyh1304, [(zyx74r, zyh1305)])
noncomputable def zbzyx74e : Bool := zrunw zprog2 (zovW [zyx71d, zyx68d, zyx53d, zyx73d, zyx52d]) 100000 (zcutW [] none ((zyx74r, zyh1305), 16, 1980) []) 16 1980 k2X8_thing (zkin zyx74r zyh1305) 0 (zargs 0 zyx74a, [], (zyh1304.1, zyh1304.2.1, 0), 0, 0)
/-! X8_product ((('r', 99), 40, 37),) -/
noncomputable def zyx75a : List zAV := [.inr (.inr (.inl 94)), .inl ((.ofNat 0, .ofNat 4), none)]
def zyx75r : Option zAV := some (.inl ((.negSucc 2147483647, .ofNat 2147483647), none))
noncomputable def zyx75q : zPw := ((6, ([(0, .inr (.inr (.inl 94))), (1, .inl ((.ofNat 0, .ofNat 4), some (1, .ofNat 0))), (2, .inl ((.negSucc 2147483647, .ofNat 2147483647), some (2, .ofNat 0)))], [], zyh1305, 0, 0), [], 0), (zyx75r, zyh1305), 17, 2100)
noncomputable def zbzyx75c : Bool := zchkX [(94, 15)] zprog2 (zovW [zyx68d, zyx74d]) 100000 k2X8_product [zyx69q, zyx63q, zyx57q] [zyx75q] [zyx75q]
noncomputable def zyx75d : zKw := (265, 5, 17, 2100, zyx75a, zyh1304, [(zyx75r, zyh1305)])
noncomputable def zbzyx75e : Bool := zrunw zprog2 (zovW [zyx68d, zyx74d]) 100000 (zcutW [(94, 15)] none ((zyx75r, zyh1305), 17, 2100) [zyx75q, zyx69q, zyx63q, zyx57q]) 17 2100 k2X8_product (zkin zyx75r zyh1305) 0 (zargs 0 zyx75a, [], (zyh1304.1, zyh1304.2.1, 0), 0, 0)
noncomputable def zyg10 : List Bool := [zbzyx16e, zbzyx17e, zbzyx18e, zbzyx19e, zbzyx20e, zbzyx21e, zbzyx22e, zbzyx23e, zbzyx24e, zbzyx25e, zbzyx26e, zbzyx27e, zbzyx28e, zbzyx29e, zbzyx30e, zbzyx31e, zbzyx32e, zbzyx33e, zbzyx34e, zbzyx35e, zbzyx36e, zbzyx37e, zbzyx38e, zbzyx39e, zbzyx40e, zbzyx41e, zbzyx42e, zbzyx43e, zbzyx44e, zbzyx45e, zbzyx46e, zbzyx47e, zbzyx48e, zbzyx49e, zbzyx50e, zbzyx51e, zbzyx52e, zbzyx53e, zbzyx54e, zbzyx55e, zbzyx56e, zbzyx57c, zbzyx57e, zbzyx58c, zbzyx58e, zbzyx59e, zbzyx60e, zbzyx61c0, zbzyx61e, zbzyx62e, zbzyx63c, zbzyx63e, zbzyx64c, zbzyx64e, zbzyx65e, zbzyx66e, zbzyx67c0, zbzyx67e, zbzyx68e, zbzyx69c, zbzyx69e, zbzyx70c, zbzyx70e, zbzyx71e, zbzyx72e, zbzyx73c0, zbzyx73e, zbzyx74e, zbzyx75c, zbzyx75e]
set_option maxRecDepth 100000 in
theorem zyg10_ok : zall (fun b => b) zyg10 = true := by decide +kernel
theorem zyx16e : zrunw zprog2 (zovW []) 100000 zcut0 3 420 kX8_passes (zkinL zyx16q) 0 (zargs 0 zyx16a, [], (zyh1196.1, zyh1196.2.1, 0), 0, 0) = true := zall_ok zyg10_ok (k := 0) (a := zbzyx16e) rfl
theorem zyx16 {l : Launch} {D : va_G} {tys : List (ClassId × FieldType)} {o : zO} {z : Nat} (E : zEnv tys) : zKnW l D vwCl tys o z (zXX o z) zTs zprog2 zyx16d :=
  zkn_ml E (fun g => fun _ h => absurd h List.not_mem_nil) (show zget zprog2 263 = some mX8_passes from rfl) rfl (by decide) (by decide) (by decide) (by decide) zyx16e
theorem zyx17e : zrunw zprog2 (zovW []) 100000 zcut0 3 420 kX8_passes (zkinL zyx17q) 0 (zargs 0 zyx17a, [], (zyh1199.1, zyh1199.2.1, 0), 0, 0) = true := zall_ok zyg10_ok (k := 1) (a := zbzyx17e) rfl
theorem zyx17 {l : Launch} {D : va_G} {tys : List (ClassId × FieldType)} {o : zO} {z : Nat} (E : zEnv tys) : zKnW l D vwCl tys o z (zXX o z) zTs zprog2 zyx17d :=
  zkn_ml E (fun g => fun _ h => absurd h List.not_mem_nil) (show zget zprog2 263 = some mX8_passes from rfl) rfl (by decide) (by decide) (by decide) (by decide) zyx17e
theorem zyx18e : zrunw zprog2 (zovW []) 100000 zcut0 3 420 kX8_passes (zkinL zyx18q) 0 (zargs 0 zyx18a, [], (zyh1202.1, zyh1202.2.1, 0), 0, 0) = true := zall_ok zyg10_ok (k := 2) (a := zbzyx18e) rfl
theorem zyx18 {l : Launch} {D : va_G} {tys : List (ClassId × FieldType)} {o : zO} {z : Nat} (E : zEnv tys) : zKnW l D vwCl tys o z (zXX o z) zTs zprog2 zyx18d :=
  zkn_ml E (fun g => fun _ h => absurd h List.not_mem_nil) (show zget zprog2 263 = some mX8_passes from rfl) rfl (by decide) (by decide) (by decide) (by decide) zyx18e
theorem zyx19e : zrunw zprog2 (zovW []) 100000 zcut0 3 420 kX8_passes (zkinL zyx19q) 0 (zargs 0 zyx19a, [], (zyh1205.1, zyh1205.2.1, 0), 0, 0) = true := zall_ok zyg10_ok (k := 3) (a := zbzyx19e) rfl
theorem zyx19 {l : Launch} {D : va_G} {tys : List (ClassId × FieldType)} {o : zO} {z : Nat} (E : zEnv tys) : zKnW l D vwCl tys o z (zXX o z) zTs zprog2 zyx19d :=
  zkn_ml E (fun g => fun _ h => absurd h List.not_mem_nil) (show zget zprog2 263 = some mX8_passes from rfl) rfl (by decide) (by decide) (by decide) (by decide) zyx19e
theorem zyx20e : zrunw zprog2 (zovW []) 100000 zcut0 3 420 kX8_passes (zkinL zyx20q) 0 (zargs 0 zyx20a, [], (zyh1208.1, zyh1208.2.1, 0), 0, 0) = true := zall_ok zyg10_ok (k := 4) (a := zbzyx20e) rfl
theorem zyx20 {l : Launch} {D : va_G} {tys : List (ClassId × FieldType)} {o : zO} {z : Nat} (E : zEnv tys) : zKnW l D vwCl tys o z (zXX o z) zTs zprog2 zyx20d :=
  zkn_ml E (fun g => fun _ h => absurd h List.not_mem_nil) (show zget zprog2 263 = some mX8_passes from rfl) rfl (by decide) (by decide) (by decide) (by decide) zyx20e
theorem zyx21e : zrunw zprog2 (zovW []) 100000 zcut0 3 420 kX8_passes (zkinL zyx21q) 0 (zargs 0 zyx21a, [], (zyh1211.1, zyh1211.2.1, 0), 0, 0) = true := zall_ok zyg10_ok (k := 5) (a := zbzyx21e) rfl
theorem zyx21 {l : Launch} {D : va_G} {tys : List (ClassId × FieldType)} {o : zO} {z : Nat} (E : zEnv tys) : zKnW l D vwCl tys o z (zXX o z) zTs zprog2 zyx21d :=
  zkn_ml E (fun g => fun _ h => absurd h List.not_mem_nil) (show zget zprog2 263 = some mX8_passes from rfl) rfl (by decide) (by decide) (by decide) (by decide) zyx21e
theorem zyx22e : zrunw zprog2 (zovW []) 100000 zcut0 3 420 kX8_passes (zkinL zyx22q) 0 (zargs 0 zyx22a, [], (zyh1214.1, zyh1214.2.1, 0), 0, 0) = true := zall_ok zyg10_ok (k := 6) (a := zbzyx22e) rfl
theorem zyx22 {l : Launch} {D : va_G} {tys : List (ClassId × FieldType)} {o : zO} {z : Nat} (E : zEnv tys) : zKnW l D vwCl tys o z (zXX o z) zTs zprog2 zyx22d :=
  zkn_ml E (fun g => fun _ h => absurd h List.not_mem_nil) (show zget zprog2 263 = some mX8_passes from rfl) rfl (by decide) (by decide) (by decide) (by decide) zyx22e
theorem zyx23e : zrunw zprog2 (zovW []) 100000 zcut0 3 420 kX8_passes (zkinL zyx23q) 0 (zargs 0 zyx23a, [], (zyh1217.1, zyh1217.2.1, 0), 0, 0) = true := zall_ok zyg10_ok (k := 7) (a := zbzyx23e) rfl
theorem zyx23 {l : Launch} {D : va_G} {tys : List (ClassId × FieldType)} {o : zO} {z : Nat} (E : zEnv tys) : zKnW l D vwCl tys o z (zXX o z) zTs zprog2 zyx23d :=
  zkn_ml E (fun g => fun _ h => absurd h List.not_mem_nil) (show zget zprog2 263 = some mX8_passes from rfl) rfl (by decide) (by decide) (by decide) (by decide) zyx23e
theorem zyx24e : zrunw zprog2 (zovW []) 100000 zcut0 3 420 kX8_passes (zkinL zyx24q) 0 (zargs 0 zyx24a, [], (zyh1220.1, zyh1220.2.1, 0), 0, 0) = true := zall_ok zyg10_ok (k := 8) (a := zbzyx24e) rfl
theorem zyx24 {l : Launch} {D : va_G} {tys : List (ClassId × FieldType)} {o : zO} {z : Nat} (E : zEnv tys) : zKnW l D vwCl tys o z (zXX o z) zTs zprog2 zyx24d :=
  zkn_ml E (fun g => fun _ h => absurd h List.not_mem_nil) (show zget zprog2 263 = some mX8_passes from rfl) rfl (by decide) (by decide) (by decide) (by decide) zyx24e
theorem zyx25e : zrunw zprog2 (zovW []) 100000 zcut0 3 420 kX8_passes (zkinL zyx25q) 0 (zargs 0 zyx25a, [], (zyh1223.1, zyh1223.2.1, 0), 0, 0) = true := zall_ok zyg10_ok (k := 9) (a := zbzyx25e) rfl
theorem zyx25 {l : Launch} {D : va_G} {tys : List (ClassId × FieldType)} {o : zO} {z : Nat} (E : zEnv tys) : zKnW l D vwCl tys o z (zXX o z) zTs zprog2 zyx25d :=
  zkn_ml E (fun g => fun _ h => absurd h List.not_mem_nil) (show zget zprog2 263 = some mX8_passes from rfl) rfl (by decide) (by decide) (by decide) (by decide) zyx25e
theorem zyx26e : zrunw zprog2 (zovW []) 100000 zcut0 3 420 kX8_passes (zkinL zyx26q) 0 (zargs 0 zyx26a, [], (zyh1226.1, zyh1226.2.1, 0), 0, 0) = true := zall_ok zyg10_ok (k := 10) (a := zbzyx26e) rfl
theorem zyx26 {l : Launch} {D : va_G} {tys : List (ClassId × FieldType)} {o : zO} {z : Nat} (E : zEnv tys) : zKnW l D vwCl tys o z (zXX o z) zTs zprog2 zyx26d :=
  zkn_ml E (fun g => fun _ h => absurd h List.not_mem_nil) (show zget zprog2 263 = some mX8_passes from rfl) rfl (by decide) (by decide) (by decide) (by decide) zyx26e
theorem zyx27e : zrunw zprog2 (zovW []) 100000 zcut0 3 420 kX8_passes (zkinL zyx27q) 0 (zargs 0 zyx27a, [], (zyh1229.1, zyh1229.2.1, 0), 0, 0) = true := zall_ok zyg10_ok (k := 11) (a := zbzyx27e) rfl
theorem zyx27 {l : Launch} {D : va_G} {tys : List (ClassId × FieldType)} {o : zO} {z : Nat} (E : zEnv tys) : zKnW l D vwCl tys o z (zXX o z) zTs zprog2 zyx27d :=
  zkn_ml E (fun g => fun _ h => absurd h List.not_mem_nil) (show zget zprog2 263 = some mX8_passes from rfl) rfl (by decide) (by decide) (by decide) (by decide) zyx27e
theorem zyx28e : zrunw zprog2 (zovW []) 100000 zcut0 3 420 kX8_passes (zkinL zyx28q) 0 (zargs 0 zyx28a, [], (zyh1232.1, zyh1232.2.1, 0), 0, 0) = true := zall_ok zyg10_ok (k := 12) (a := zbzyx28e) rfl
theorem zyx28 {l : Launch} {D : va_G} {tys : List (ClassId × FieldType)} {o : zO} {z : Nat} (E : zEnv tys) : zKnW l D vwCl tys o z (zXX o z) zTs zprog2 zyx28d :=
  zkn_ml E (fun g => fun _ h => absurd h List.not_mem_nil) (show zget zprog2 263 = some mX8_passes from rfl) rfl (by decide) (by decide) (by decide) (by decide) zyx28e
theorem zyx29e : zrunw zprog2 (zovW []) 100000 zcut0 3 420 kX8_passes (zkinL zyx29q) 0 (zargs 0 zyx29a, [], (zyh1235.1, zyh1235.2.1, 0), 0, 0) = true := zall_ok zyg10_ok (k := 13) (a := zbzyx29e) rfl
theorem zyx29 {l : Launch} {D : va_G} {tys : List (ClassId × FieldType)} {o : zO} {z : Nat} (E : zEnv tys) : zKnW l D vwCl tys o z (zXX o z) zTs zprog2 zyx29d :=
  zkn_ml E (fun g => fun _ h => absurd h List.not_mem_nil) (show zget zprog2 263 = some mX8_passes from rfl) rfl (by decide) (by decide) (by decide) (by decide) zyx29e
theorem zyx30e : zrunw zprog2 (zovW []) 100000 zcut0 3 420 kX8_passes (zkinL zyx30q) 0 (zargs 0 zyx30a, [], (zyh1238.1, zyh1238.2.1, 0), 0, 0) = true := zall_ok zyg10_ok (k := 14) (a := zbzyx30e) rfl
theorem zyx30 {l : Launch} {D : va_G} {tys : List (ClassId × FieldType)} {o : zO} {z : Nat} (E : zEnv tys) : zKnW l D vwCl tys o z (zXX o z) zTs zprog2 zyx30d :=
  zkn_ml E (fun g => fun _ h => absurd h List.not_mem_nil) (show zget zprog2 263 = some mX8_passes from rfl) rfl (by decide) (by decide) (by decide) (by decide) zyx30e
theorem zyx31e : zrunw zprog2 (zovW []) 100000 zcut0 3 420 kX8_passes (zkinL zyx31q) 0 (zargs 0 zyx31a, [], (zyh1241.1, zyh1241.2.1, 0), 0, 0) = true := zall_ok zyg10_ok (k := 15) (a := zbzyx31e) rfl
theorem zyx31 {l : Launch} {D : va_G} {tys : List (ClassId × FieldType)} {o : zO} {z : Nat} (E : zEnv tys) : zKnW l D vwCl tys o z (zXX o z) zTs zprog2 zyx31d :=
  zkn_ml E (fun g => fun _ h => absurd h List.not_mem_nil) (show zget zprog2 263 = some mX8_passes from rfl) rfl (by decide) (by decide) (by decide) (by decide) zyx31e
theorem zyx32e : zrunw zprog2 (zovW []) 100000 zcut0 3 420 kX8_passes (zkinL zyx32q) 0 (zargs 0 zyx32a, [], (zyh1244.1, zyh1244.2.1, 0), 0, 0) = true := zall_ok zyg10_ok (k := 16) (a := zbzyx32e) rfl
theorem zyx32 {l : Launch} {D : va_G} {tys : List (ClassId × FieldType)} {o : zO} {z : Nat} (E : zEnv tys) : zKnW l D vwCl tys o z (zXX o z) zTs zprog2 zyx32d :=
  zkn_ml E (fun g => fun _ h => absurd h List.not_mem_nil) (show zget zprog2 263 = some mX8_passes from rfl) rfl (by decide) (by decide) (by decide) (by decide) zyx32e
theorem zyx33e : zrunw zprog2 (zovW []) 100000 zcut0 3 420 kX8_passes (zkinL zyx33q) 0 (zargs 0 zyx33a, [], (zyh1247.1, zyh1247.2.1, 0), 0, 0) = true := zall_ok zyg10_ok (k := 17) (a := zbzyx33e) rfl
theorem zyx33 {l : Launch} {D : va_G} {tys : List (ClassId × FieldType)} {o : zO} {z : Nat} (E : zEnv tys) : zKnW l D vwCl tys o z (zXX o z) zTs zprog2 zyx33d :=
  zkn_ml E (fun g => fun _ h => absurd h List.not_mem_nil) (show zget zprog2 263 = some mX8_passes from rfl) rfl (by decide) (by decide) (by decide) (by decide) zyx33e
theorem zyx34e : zrunw zprog2 (zovW []) 100000 zcut0 3 420 kX8_passes (zkinL zyx34q) 0 (zargs 0 zyx34a, [], (zyh1250.1, zyh1250.2.1, 0), 0, 0) = true := zall_ok zyg10_ok (k := 18) (a := zbzyx34e) rfl
theorem zyx34 {l : Launch} {D : va_G} {tys : List (ClassId × FieldType)} {o : zO} {z : Nat} (E : zEnv tys) : zKnW l D vwCl tys o z (zXX o z) zTs zprog2 zyx34d :=
  zkn_ml E (fun g => fun _ h => absurd h List.not_mem_nil) (show zget zprog2 263 = some mX8_passes from rfl) rfl (by decide) (by decide) (by decide) (by decide) zyx34e
theorem zyx35e : zrunw zprog2 (zovW []) 100000 zcut0 3 420 kX8_passes (zkinL zyx35q) 0 (zargs 0 zyx35a, [], (zyh1253.1, zyh1253.2.1, 0), 0, 0) = true := zall_ok zyg10_ok (k := 19) (a := zbzyx35e) rfl
theorem zyx35 {l : Launch} {D : va_G} {tys : List (ClassId × FieldType)} {o : zO} {z : Nat} (E : zEnv tys) : zKnW l D vwCl tys o z (zXX o z) zTs zprog2 zyx35d :=
  zkn_ml E (fun g => fun _ h => absurd h List.not_mem_nil) (show zget zprog2 263 = some mX8_passes from rfl) rfl (by decide) (by decide) (by decide) (by decide) zyx35e
theorem zyx36e : zrunw zprog2 (zovW []) 100000 zcut0 3 420 kX8_passes (zkinL zyx36q) 0 (zargs 0 zyx36a, [], (zyh1256.1, zyh1256.2.1, 0), 0, 0) = true := zall_ok zyg10_ok (k := 20) (a := zbzyx36e) rfl
theorem zyx36 {l : Launch} {D : va_G} {tys : List (ClassId × FieldType)} {o : zO} {z : Nat} (E : zEnv tys) : zKnW l D vwCl tys o z (zXX o z) zTs zprog2 zyx36d :=
  zkn_ml E (fun g => fun _ h => absurd h List.not_mem_nil) (show zget zprog2 263 = some mX8_passes from rfl) rfl (by decide) (by decide) (by decide) (by decide) zyx36e
theorem zyx37e : zrunw zprog2 (zovW []) 100000 zcut0 3 420 kX8_passes (zkinL zyx37q) 0 (zargs 0 zyx37a, [], (zyh1259.1, zyh1259.2.1, 0), 0, 0) = true := zall_ok zyg10_ok (k := 21) (a := zbzyx37e) rfl
theorem zyx37 {l : Launch} {D : va_G} {tys : List (ClassId × FieldType)} {o : zO} {z : Nat} (E : zEnv tys) : zKnW l D vwCl tys o z (zXX o z) zTs zprog2 zyx37d :=
  zkn_ml E (fun g => fun _ h => absurd h List.not_mem_nil) (show zget zprog2 263 = some mX8_passes from rfl) rfl (by decide) (by decide) (by decide) (by decide) zyx37e
theorem zyx38e : zrunw zprog2 (zovW []) 100000 zcut0 3 420 kX8_passes (zkinL zyx38q) 0 (zargs 0 zyx38a, [], (zyh1262.1, zyh1262.2.1, 0), 0, 0) = true := zall_ok zyg10_ok (k := 22) (a := zbzyx38e) rfl
theorem zyx38 {l : Launch} {D : va_G} {tys : List (ClassId × FieldType)} {o : zO} {z : Nat} (E : zEnv tys) : zKnW l D vwCl tys o z (zXX o z) zTs zprog2 zyx38d :=
  zkn_ml E (fun g => fun _ h => absurd h List.not_mem_nil) (show zget zprog2 263 = some mX8_passes from rfl) rfl (by decide) (by decide) (by decide) (by decide) zyx38e
theorem zyx39e : zrunw zprog2 (zovW []) 100000 zcut0 3 420 kX8_passes (zkinL zyx39q) 0 (zargs 0 zyx39a, [], (zyh1265.1, zyh1265.2.1, 0), 0, 0) = true := zall_ok zyg10_ok (k := 23) (a := zbzyx39e) rfl
theorem zyx39 {l : Launch} {D : va_G} {tys : List (ClassId × FieldType)} {o : zO} {z : Nat} (E : zEnv tys) : zKnW l D vwCl tys o z (zXX o z) zTs zprog2 zyx39d :=
  zkn_ml E (fun g => fun _ h => absurd h List.not_mem_nil) (show zget zprog2 263 = some mX8_passes from rfl) rfl (by decide) (by decide) (by decide) (by decide) zyx39e
theorem zyx40e : zrunw zprog2 (zovW []) 100000 zcut0 3 420 kX8_passes (zkinL zyx40q) 0 (zargs 0 zyx40a, [], (zyh1268.1, zyh1268.2.1, 0), 0, 0) = true := zall_ok zyg10_ok (k := 24) (a := zbzyx40e) rfl
theorem zyx40 {l : Launch} {D : va_G} {tys : List (ClassId × FieldType)} {o : zO} {z : Nat} (E : zEnv tys) : zKnW l D vwCl tys o z (zXX o z) zTs zprog2 zyx40d :=
  zkn_ml E (fun g => fun _ h => absurd h List.not_mem_nil) (show zget zprog2 263 = some mX8_passes from rfl) rfl (by decide) (by decide) (by decide) (by decide) zyx40e
theorem zyx41e : zrunw zprog2 (zovW []) 100000 zcut0 3 420 kX8_passes (zkinL zyx41q) 0 (zargs 0 zyx41a, [], (zyh1271.1, zyh1271.2.1, 0), 0, 0) = true := zall_ok zyg10_ok (k := 25) (a := zbzyx41e) rfl
theorem zyx41 {l : Launch} {D : va_G} {tys : List (ClassId × FieldType)} {o : zO} {z : Nat} (E : zEnv tys) : zKnW l D vwCl tys o z (zXX o z) zTs zprog2 zyx41d :=
  zkn_ml E (fun g => fun _ h => absurd h List.not_mem_nil) (show zget zprog2 263 = some mX8_passes from rfl) rfl (by decide) (by decide) (by decide) (by decide) zyx41e
theorem zyx42e : zrunw zprog2 (zovW []) 100000 zcut0 3 420 kX8_passes (zkinL zyx42q) 0 (zargs 0 zyx42a, [], (zyh1274.1, zyh1274.2.1, 0), 0, 0) = true := zall_ok zyg10_ok (k := 26) (a := zbzyx42e) rfl
theorem zyx42 {l : Launch} {D : va_G} {tys : List (ClassId × FieldType)} {o : zO} {z : Nat} (E : zEnv tys) : zKnW l D vwCl tys o z (zXX o z) zTs zprog2 zyx42d :=
  zkn_ml E (fun g => fun _ h => absurd h List.not_mem_nil) (show zget zprog2 263 = some mX8_passes from rfl) rfl (by decide) (by decide) (by decide) (by decide) zyx42e
theorem zyx43e : zrunw zprog2 (zovW []) 100000 zcut0 3 420 kX8_passes (zkinL zyx43q) 0 (zargs 0 zyx43a, [], (zyh1277.1, zyh1277.2.1, 0), 0, 0) = true := zall_ok zyg10_ok (k := 27) (a := zbzyx43e) rfl
theorem zyx43 {l : Launch} {D : va_G} {tys : List (ClassId × FieldType)} {o : zO} {z : Nat} (E : zEnv tys) : zKnW l D vwCl tys o z (zXX o z) zTs zprog2 zyx43d :=
  zkn_ml E (fun g => fun _ h => absurd h List.not_mem_nil) (show zget zprog2 263 = some mX8_passes from rfl) rfl (by decide) (by decide) (by decide) (by decide) zyx43e
theorem zyx44e : zrunw zprog2 (zovW []) 100000 zcut0 3 420 kX8_passes (zkinL zyx44q) 0 (zargs 0 zyx44a, [], (zyh1280.1, zyh1280.2.1, 0), 0, 0) = true := zall_ok zyg10_ok (k := 28) (a := zbzyx44e) rfl
theorem zyx44 {l : Launch} {D : va_G} {tys : List (ClassId × FieldType)} {o : zO} {z : Nat} (E : zEnv tys) : zKnW l D vwCl tys o z (zXX o z) zTs zprog2 zyx44d :=
  zkn_ml E (fun g => fun _ h => absurd h List.not_mem_nil) (show zget zprog2 263 = some mX8_passes from rfl) rfl (by decide) (by decide) (by decide) (by decide) zyx44e
theorem zyx45e : zrunw zprog2 (zovW []) 100000 zcut0 3 420 kX8_passes (zkinL zyx45q) 0 (zargs 0 zyx45a, [], (zyh1283.1, zyh1283.2.1, 0), 0, 0) = true := zall_ok zyg10_ok (k := 29) (a := zbzyx45e) rfl
theorem zyx45 {l : Launch} {D : va_G} {tys : List (ClassId × FieldType)} {o : zO} {z : Nat} (E : zEnv tys) : zKnW l D vwCl tys o z (zXX o z) zTs zprog2 zyx45d :=
  zkn_ml E (fun g => fun _ h => absurd h List.not_mem_nil) (show zget zprog2 263 = some mX8_passes from rfl) rfl (by decide) (by decide) (by decide) (by decide) zyx45e
theorem zyx46e : zrunw zprog2 (zovW []) 100000 zcut0 3 420 kX8_passes (zkinL zyx46q) 0 (zargs 0 zyx46a, [], (zyh1286.1, zyh1286.2.1, 0), 0, 0) = true := zall_ok zyg10_ok (k := 30) (a := zbzyx46e) rfl
theorem zyx46 {l : Launch} {D : va_G} {tys : List (ClassId × FieldType)} {o : zO} {z : Nat} (E : zEnv tys) : zKnW l D vwCl tys o z (zXX o z) zTs zprog2 zyx46d :=
  zkn_ml E (fun g => fun _ h => absurd h List.not_mem_nil) (show zget zprog2 263 = some mX8_passes from rfl) rfl (by decide) (by decide) (by decide) (by decide) zyx46e
theorem zyx47e : zrunw zprog2 (zovW []) 100000 zcut0 3 420 kX8_passes (zkinL zyx47q) 0 (zargs 0 zyx47a, [], (zyh1289.1, zyh1289.2.1, 0), 0, 0) = true := zall_ok zyg10_ok (k := 31) (a := zbzyx47e) rfl
theorem zyx47 {l : Launch} {D : va_G} {tys : List (ClassId × FieldType)} {o : zO} {z : Nat} (E : zEnv tys) : zKnW l D vwCl tys o z (zXX o z) zTs zprog2 zyx47d :=
  zkn_ml E (fun g => fun _ h => absurd h List.not_mem_nil) (show zget zprog2 263 = some mX8_passes from rfl) rfl (by decide) (by decide) (by decide) (by decide) zyx47e
theorem zyx48e : zrunw zprog2 (zovW []) 100000 zcut0 3 420 kX8_passes (zkinL zyx48q) 0 (zargs 0 zyx48a, [], (zyh1292.1, zyh1292.2.1, 0), 0, 0) = true := zall_ok zyg10_ok (k := 32) (a := zbzyx48e) rfl
theorem zyx48 {l : Launch} {D : va_G} {tys : List (ClassId × FieldType)} {o : zO} {z : Nat} (E : zEnv tys) : zKnW l D vwCl tys o z (zXX o z) zTs zprog2 zyx48d :=
  zkn_ml E (fun g => fun _ h => absurd h List.not_mem_nil) (show zget zprog2 263 = some mX8_passes from rfl) rfl (by decide) (by decide) (by decide) (by decide) zyx48e
theorem zyx49e : zrunw zprog2 (zovW []) 100000 zcut0 3 420 kX8_passes (zkinL zyx49q) 0 (zargs 0 zyx49a, [], (zyh1295.1, zyh1295.2.1, 0), 0, 0) = true := zall_ok zyg10_ok (k := 33) (a := zbzyx49e) rfl
theorem zyx49 {l : Launch} {D : va_G} {tys : List (ClassId × FieldType)} {o : zO} {z : Nat} (E : zEnv tys) : zKnW l D vwCl tys o z (zXX o z) zTs zprog2 zyx49d :=
  zkn_ml E (fun g => fun _ h => absurd h List.not_mem_nil) (show zget zprog2 263 = some mX8_passes from rfl) rfl (by decide) (by decide) (by decide) (by decide) zyx49e
theorem zyx50e : zrunw zprog2 (zovW []) 100000 zcut0 3 420 kX8_passes (zkinL zyx50q) 0 (zargs 0 zyx50a, [], (zyh1298.1, zyh1298.2.1, 0), 0, 0) = true := zall_ok zyg10_ok (k := 34) (a := zbzyx50e) rfl
theorem zyx50 {l : Launch} {D : va_G} {tys : List (ClassId × FieldType)} {o : zO} {z : Nat} (E : zEnv tys) : zKnW l D vwCl tys o z (zXX o z) zTs zprog2 zyx50d :=
  zkn_ml E (fun g => fun _ h => absurd h List.not_mem_nil) (show zget zprog2 263 = some mX8_passes from rfl) rfl (by decide) (by decide) (by decide) (by decide) zyx50e
theorem zyx51e : zrunw zprog2 (zovW []) 100000 zcut0 3 420 kX8_passes (zkinL zyx51q) 0 (zargs 0 zyx51a, [], (zyh1301.1, zyh1301.2.1, 0), 0, 0) = true := zall_ok zyg10_ok (k := 35) (a := zbzyx51e) rfl
theorem zyx51 {l : Launch} {D : va_G} {tys : List (ClassId × FieldType)} {o : zO} {z : Nat} (E : zEnv tys) : zKnW l D vwCl tys o z (zXX o z) zTs zprog2 zyx51d :=
  zkn_ml E (fun g => fun _ h => absurd h List.not_mem_nil) (show zget zprog2 263 = some mX8_passes from rfl) rfl (by decide) (by decide) (by decide) (by decide) zyx51e
theorem zyx52e : zrunw zprog2 (zovW []) 100000 zcut0 3 420 kX8_passes (zkinL zyx52q) 0 (zargs 0 zyx52a, [], (zyh1304.1, zyh1304.2.1, 0), 0, 0) = true := zall_ok zyg10_ok (k := 36) (a := zbzyx52e) rfl
theorem zyx52 {l : Launch} {D : va_G} {tys : List (ClassId × FieldType)} {o : zO} {z : Nat} (E : zEnv tys) : zKnW l D vwCl tys o z (zXX o z) zTs zprog2 zyx52d :=
  zkn_ml E (fun g => fun _ h => absurd h List.not_mem_nil) (show zget zprog2 263 = some mX8_passes from rfl) rfl (by decide) (by decide) (by decide) (by decide) zyx52e
theorem zyx53e : zrunw zprog2 (zovW []) 100000 zcut0 3 420 kX8_passes (zkinL zyx53q) 0 (zargs 0 zyx53a, [], (zyh1307.1, zyh1307.2.1, 0), 0, 0) = true := zall_ok zyg10_ok (k := 37) (a := zbzyx53e) rfl
theorem zyx53 {l : Launch} {D : va_G} {tys : List (ClassId × FieldType)} {o : zO} {z : Nat} (E : zEnv tys) : zKnW l D vwCl tys o z (zXX o z) zTs zprog2 zyx53d :=
  zkn_ml E (fun g => fun _ h => absurd h List.not_mem_nil) (show zget zprog2 263 = some mX8_passes from rfl) rfl (by decide) (by decide) (by decide) (by decide) zyx53e
theorem zyx54e : zrunw zprog2 (zovW []) 100000 zcut0 3 420 kX8_passes (zkinL zyx54q) 0 (zargs 0 zyx54a, [], (zyh1310.1, zyh1310.2.1, 0), 0, 0) = true := zall_ok zyg10_ok (k := 38) (a := zbzyx54e) rfl
theorem zyx54 {l : Launch} {D : va_G} {tys : List (ClassId × FieldType)} {o : zO} {z : Nat} (E : zEnv tys) : zKnW l D vwCl tys o z (zXX o z) zTs zprog2 zyx54d :=
  zkn_ml E (fun g => fun _ h => absurd h List.not_mem_nil) (show zget zprog2 263 = some mX8_passes from rfl) rfl (by decide) (by decide) (by decide) (by decide) zyx54e
theorem zyx55e : zrunw zprog2 (zovW []) 100000 zcut0 3 420 kX8_passes (zkinL zyx55q) 0 (zargs 0 zyx55a, [], (zyh1313.1, zyh1313.2.1, 0), 0, 0) = true := zall_ok zyg10_ok (k := 39) (a := zbzyx55e) rfl
theorem zyx55 {l : Launch} {D : va_G} {tys : List (ClassId × FieldType)} {o : zO} {z : Nat} (E : zEnv tys) : zKnW l D vwCl tys o z (zXX o z) zTs zprog2 zyx55d :=
  zkn_ml E (fun g => fun _ h => absurd h List.not_mem_nil) (show zget zprog2 263 = some mX8_passes from rfl) rfl (by decide) (by decide) (by decide) (by decide) zyx55e
theorem zyx56e : zrunw zprog2 (zovW [zyx55d]) 100000 (zcutW [] none ((zyx56r, zyh1314), 4, 540) []) 4 540 k2X8_thing (zkin zyx56r zyh1314) 0 (zargs 0 zyx56a, [], (zyh1313.1, zyh1313.2.1, 0), 0, 0) = true := zall_ok zyg10_ok (k := 40) (a := zbzyx56e) rfl
theorem zyx56 {l : Launch} {D : va_G} {tys : List (ClassId × FieldType)} {o : zO} {z : Nat} (E : zEnv tys) : zKnW l D vwCl tys o z (zXX o z) zTs zprog2 zyx56d :=
  zkn_mk E (fun g => List.forall_mem_cons.mpr ⟨zyx55 (o := zwith o g) E, fun _ h => absurd h List.not_mem_nil⟩) (show zget zprog2 292 = some m2X8_thing from rfl) rfl (by decide) (by decide) (by decide) (by decide) (G := []) (fun _ h => absurd h List.not_mem_nil) zyx56e
theorem zyx57c : zchkX [(94, 15)] zprog2 (zovW [zyx56d]) 100000 k2X8_product [] [zyx57q] [zyx57q] = true := zall_ok zyg10_ok (k := 41) (a := zbzyx57c) rfl
theorem zyx57k {l : Launch} {D : va_G} {tys : List (ClassId × FieldType)} {o : zO} {z : Nat} (E : zEnv tys) : zPtOk l D vwCl tys o z (zXX o z) zTs m2X8_product zyx57q := zkn_pt E (fun g => List.forall_mem_cons.mpr ⟨zyx56 (o := zwith o g) E, fun _ h => absurd h List.not_mem_nil⟩) (show zget zprog2 265 = some m2X8_product from rfl) (fun _ h => absurd h List.not_mem_nil) zyx57c _ List.mem_cons_self
theorem zyx57e : zrunw zprog2 (zovW [zyx56d]) 100000 (zcutW [(94, 15)] none ((zyx57r, zyh1314), 5, 660) [zyx57q]) 5 660 k2X8_product (zkin zyx57r zyh1314) 0 (zargs 0 zyx57a, [], (zyh1313.1, zyh1313.2.1, 0), 0, 0) = true := zall_ok zyg10_ok (k := 42) (a := zbzyx57e) rfl
theorem zyx57 {l : Launch} {D : va_G} {tys : List (ClassId × FieldType)} {o : zO} {z : Nat} (E : zEnv tys) : zKnW l D vwCl tys o z (zXX o z) zTs zprog2 zyx57d :=
  zkn_mk E (fun g => List.forall_mem_cons.mpr ⟨zyx56 (o := zwith o g) E, fun _ h => absurd h List.not_mem_nil⟩) (show zget zprog2 265 = some m2X8_product from rfl) rfl (by decide) (by decide) (by decide) (by decide) (G := [zyx57q]) (List.forall_mem_cons.mpr ⟨zyx57k E, fun _ h => absurd h List.not_mem_nil⟩) zyx57e
theorem zyx58c : zchkX [(94, 15)] zprog2 (zovW [zyx57d]) 100000 kX8_sum [] [zyx58q] [zyx58q] = true := zall_ok zyg10_ok (k := 43) (a := zbzyx58c) rfl
theorem zyx58k {l : Launch} {D : va_G} {tys : List (ClassId × FieldType)} {o : zO} {z : Nat} (E : zEnv tys) : zPtOk l D vwCl tys o z (zXX o z) zTs mX8_sum zyx58q := zkn_pt E (fun g => List.forall_mem_cons.mpr ⟨zyx57 (o := zwith o g) E, fun _ h => absurd h List.not_mem_nil⟩) (show zget zprog2 284 = some mX8_sum from rfl) (fun _ h => absurd h List.not_mem_nil) zyx58c _ List.mem_cons_self
theorem zyx58e : zrunw zprog2 (zovW [zyx57d]) 100000 (zcutW [(94, 15)] none ((zyx58r, zyh1314), 6, 780) [zyx58q]) 6 780 kX8_sum (zkin zyx58r zyh1314) 0 (zargs 0 zyx58a, [], (zyh1313.1, zyh1313.2.1, 0), 0, 0) = true := zall_ok zyg10_ok (k := 44) (a := zbzyx58e) rfl
theorem zyx58 {l : Launch} {D : va_G} {tys : List (ClassId × FieldType)} {o : zO} {z : Nat} (E : zEnv tys) : zKnW l D vwCl tys o z (zXX o z) zTs zprog2 zyx58d :=
  zkn_mk E (fun g => List.forall_mem_cons.mpr ⟨zyx57 (o := zwith o g) E, fun _ h => absurd h List.not_mem_nil⟩) (show zget zprog2 284 = some mX8_sum from rfl) rfl (by decide) (by decide) (by decide) (by decide) (G := [zyx58q]) (List.forall_mem_cons.mpr ⟨zyx58k E, fun _ h => absurd h List.not_mem_nil⟩) zyx58e
theorem zyx59e : zrunw zprog2 (zovW [zyx58d, zyx55d]) 100000 (zcutW [] none ((zyx59r, zyh1314), 7, 900) []) 7 900 kX8_heldBy (zkin zyx59r zyh1314) 0 (zargs 0 zyx59a, [], (zyh1313.1, zyh1313.2.1, 0), 0, 0) = true := zall_ok zyg10_ok (k := 45) (a := zbzyx59e) rfl
theorem zyx59 {l : Launch} {D : va_G} {tys : List (ClassId × FieldType)} {o : zO} {z : Nat} (E : zEnv tys) : zKnW l D vwCl tys o z (zXX o z) zTs zprog2 zyx59d :=
  zkn_mk E (fun g => List.forall_mem_cons.mpr ⟨zyx58 (o := zwith o g) E, List.forall_mem_cons.mpr ⟨zyx55 (o := zwith o g) E, fun _ h => absurd h List.not_mem_nil⟩⟩) (show zget zprog2 229 = some mX8_heldBy from rfl) rfl (by decide) (by decide) (by decide) (by decide) (G := []) (fun _ h => absurd h List.not_mem_nil) zyx59e
theorem zyx60e : zrunw zprog2 (zovW []) 100000 zcut0 4 480 kX8_oneOf (zkinL zyx60q) 0 (zargs 0 zyx60a, [], (zyh1310.1, zyh1310.2.1, 0), 0, 0) = true := zall_ok zyg10_ok (k := 46) (a := zbzyx60e) rfl
theorem zyx60 {l : Launch} {D : va_G} {tys : List (ClassId × FieldType)} {o : zO} {z : Nat} (E : zEnv tys) : zKnW l D vwCl tys o z (zXX o z) zTs zprog2 zyx60d :=
  zkn_ml E (fun g => fun _ h => absurd h List.not_mem_nil) (show zget zprog2 260 = some mX8_oneOf from rfl) rfl (by decide) (by decide) (by decide) (by decide) zyx60e
theorem zyx61c0 : zchkX [] zprog2 (zovW [zyx60d]) 100000 kX8_number [] [zyx61q0] [zyx61q0] = true := zall_ok zyg10_ok (k := 47) (a := zbzyx61c0) rfl
theorem zyx61_k0 {l : Launch} {D : va_G} {tys : List (ClassId × FieldType)} {o : zO} {z : Nat} (E : zEnv tys) : zPtOk l D vwCl tys o z (zXX o z) zTs mX8_number zyx61q0 := zkn_pt E (fun g => List.forall_mem_cons.mpr ⟨zyx60 (o := zwith o g) E, fun _ h => absurd h List.not_mem_nil⟩) (show zget zprog2 259 = some mX8_number from rfl) (fun _ h => absurd h List.not_mem_nil) zyx61c0 _ (List.mem_of_getElem? (i := 0) rfl)
theorem zyx61e : zrunw zprog2 (zovW [zyx60d]) 100000 (zcutW [] none ((zyx61r, zyh1311), 5, 600) [zyx61q0]) 5 600 kX8_number (zkin zyx61r zyh1311) 0 (zargs 0 zyx61a, [], (zyh1310.1, zyh1310.2.1, 0), 0, 0) = true := zall_ok zyg10_ok (k := 48) (a := zbzyx61e) rfl
theorem zyx61 {l : Launch} {D : va_G} {tys : List (ClassId × FieldType)} {o : zO} {z : Nat} (E : zEnv tys) : zKnW l D vwCl tys o z (zXX o z) zTs zprog2 zyx61d :=
  zkn_mk E (fun g => List.forall_mem_cons.mpr ⟨zyx60 (o := zwith o g) E, fun _ h => absurd h List.not_mem_nil⟩) (show zget zprog2 259 = some mX8_number from rfl) rfl (by decide) (by decide) (by decide) (by decide) (G := [zyx61q0]) (List.forall_mem_cons.mpr ⟨zyx61_k0 E, fun _ h => absurd h List.not_mem_nil⟩) zyx61e
theorem zyx62e : zrunw zprog2 (zovW [zyx59d, zyx56d, zyx55d, zyx61d, zyx54d]) 100000 (zcutW [] none ((zyx62r, zyh1311), 8, 1020) []) 8 1020 k2X8_thing (zkin zyx62r zyh1311) 0 (zargs 0 zyx62a, [], (zyh1310.1, zyh1310.2.1, 0), 0, 0) = true := zall_ok zyg10_ok (k := 49) (a := zbzyx62e) rfl
theorem zyx62 {l : Launch} {D : va_G} {tys : List (ClassId × FieldType)} {o : zO} {z : Nat} (E : zEnv tys) : zKnW l D vwCl tys o z (zXX o z) zTs zprog2 zyx62d :=
  zkn_mk E (fun g => List.forall_mem_cons.mpr ⟨zyx59 (o := zwith o g) E, List.forall_mem_cons.mpr ⟨zyx56 (o := zwith o g) E, List.forall_mem_cons.mpr ⟨zyx55 (o := zwith o g) E, List.forall_mem_cons.mpr ⟨zyx61 (o := zwith o g) E, List.forall_mem_cons.mpr ⟨zyx54 (o := zwith o g) E, fun _ h => absurd h List.not_mem_nil⟩⟩⟩⟩⟩) (show zget zprog2 292 = some m2X8_thing from rfl) rfl (by decide) (by decide) (by decide) (by decide) (G := []) (fun _ h => absurd h List.not_mem_nil) zyx62e
theorem zyx63c : zchkX [(94, 15)] zprog2 (zovW [zyx56d, zyx62d]) 100000 k2X8_product [zyx57q] [zyx63q] [zyx63q] = true := zall_ok zyg10_ok (k := 50) (a := zbzyx63c) rfl
theorem zyx63k {l : Launch} {D : va_G} {tys : List (ClassId × FieldType)} {o : zO} {z : Nat} (E : zEnv tys) : zPtOk l D vwCl tys o z (zXX o z) zTs m2X8_product zyx63q := zkn_pt E (fun g => List.forall_mem_cons.mpr ⟨zyx56 (o := zwith o g) E, List.forall_mem_cons.mpr ⟨zyx62 (o := zwith o g) E, fun _ h => absurd h List.not_mem_nil⟩⟩) (show zget zprog2 265 = some m2X8_product from rfl) (List.forall_mem_cons.mpr ⟨zyx57k E, fun _ h => absurd h List.not_mem_nil⟩) zyx63c _ List.mem_cons_self
theorem zyx63e : zrunw zprog2 (zovW [zyx56d, zyx62d]) 100000 (zcutW [(94, 15)] none ((zyx63r, zyh1311), 9, 1140) [zyx63q, zyx57q]) 9 1140 k2X8_product (zkin zyx63r zyh1311) 0 (zargs 0 zyx63a, [], (zyh1310.1, zyh1310.2.1, 0), 0, 0) = true := zall_ok zyg10_ok (k := 51) (a := zbzyx63e) rfl
theorem zyx63 {l : Launch} {D : va_G} {tys : List (ClassId × FieldType)} {o : zO} {z : Nat} (E : zEnv tys) : zKnW l D vwCl tys o z (zXX o z) zTs zprog2 zyx63d :=
  zkn_mk E (fun g => List.forall_mem_cons.mpr ⟨zyx56 (o := zwith o g) E, List.forall_mem_cons.mpr ⟨zyx62 (o := zwith o g) E, fun _ h => absurd h List.not_mem_nil⟩⟩) (show zget zprog2 265 = some m2X8_product from rfl) rfl (by decide) (by decide) (by decide) (by decide) (G := [zyx63q, zyx57q]) (List.forall_mem_cons.mpr ⟨zyx63k E, List.forall_mem_cons.mpr ⟨zyx57k E, fun _ h => absurd h List.not_mem_nil⟩⟩) zyx63e
theorem zyx64c : zchkX [(94, 15)] zprog2 (zovW [zyx57d, zyx63d]) 100000 kX8_sum [zyx58q] [zyx64q] [zyx64q] = true := zall_ok zyg10_ok (k := 52) (a := zbzyx64c) rfl
theorem zyx64k {l : Launch} {D : va_G} {tys : List (ClassId × FieldType)} {o : zO} {z : Nat} (E : zEnv tys) : zPtOk l D vwCl tys o z (zXX o z) zTs mX8_sum zyx64q := zkn_pt E (fun g => List.forall_mem_cons.mpr ⟨zyx57 (o := zwith o g) E, List.forall_mem_cons.mpr ⟨zyx63 (o := zwith o g) E, fun _ h => absurd h List.not_mem_nil⟩⟩) (show zget zprog2 284 = some mX8_sum from rfl) (List.forall_mem_cons.mpr ⟨zyx58k E, fun _ h => absurd h List.not_mem_nil⟩) zyx64c _ List.mem_cons_self
theorem zyx64e : zrunw zprog2 (zovW [zyx57d, zyx63d]) 100000 (zcutW [(94, 15)] none ((zyx64r, zyh1311), 10, 1260) [zyx64q, zyx58q]) 10 1260 kX8_sum (zkin zyx64r zyh1311) 0 (zargs 0 zyx64a, [], (zyh1310.1, zyh1310.2.1, 0), 0, 0) = true := zall_ok zyg10_ok (k := 53) (a := zbzyx64e) rfl
theorem zyx64 {l : Launch} {D : va_G} {tys : List (ClassId × FieldType)} {o : zO} {z : Nat} (E : zEnv tys) : zKnW l D vwCl tys o z (zXX o z) zTs zprog2 zyx64d :=
  zkn_mk E (fun g => List.forall_mem_cons.mpr ⟨zyx57 (o := zwith o g) E, List.forall_mem_cons.mpr ⟨zyx63 (o := zwith o g) E, fun _ h => absurd h List.not_mem_nil⟩⟩) (show zget zprog2 284 = some mX8_sum from rfl) rfl (by decide) (by decide) (by decide) (by decide) (G := [zyx64q, zyx58q]) (List.forall_mem_cons.mpr ⟨zyx64k E, List.forall_mem_cons.mpr ⟨zyx58k E, fun _ h => absurd h List.not_mem_nil⟩⟩) zyx64e
theorem zyx65e : zrunw zprog2 (zovW [zyx58d, zyx64d, zyx54d]) 100000 (zcutW [] none ((zyx65r, zyh1311), 11, 1380) []) 11 1380 kX8_heldBy (zkin zyx65r zyh1311) 0 (zargs 0 zyx65a, [], (zyh1310.1, zyh1310.2.1, 0), 0, 0) = true := zall_ok zyg10_ok (k := 54) (a := zbzyx65e) rfl
theorem zyx65 {l : Launch} {D : va_G} {tys : List (ClassId × FieldType)} {o : zO} {z : Nat} (E : zEnv tys) : zKnW l D vwCl tys o z (zXX o z) zTs zprog2 zyx65d :=
  zkn_mk E (fun g => List.forall_mem_cons.mpr ⟨zyx58 (o := zwith o g) E, List.forall_mem_cons.mpr ⟨zyx64 (o := zwith o g) E, List.forall_mem_cons.mpr ⟨zyx54 (o := zwith o g) E, fun _ h => absurd h List.not_mem_nil⟩⟩⟩) (show zget zprog2 229 = some mX8_heldBy from rfl) rfl (by decide) (by decide) (by decide) (by decide) (G := []) (fun _ h => absurd h List.not_mem_nil) zyx65e
theorem zyx66e : zrunw zprog2 (zovW []) 100000 zcut0 4 480 kX8_oneOf (zkinL zyx66q) 0 (zargs 0 zyx66a, [], (zyh1307.1, zyh1307.2.1, 0), 0, 0) = true := zall_ok zyg10_ok (k := 55) (a := zbzyx66e) rfl
theorem zyx66 {l : Launch} {D : va_G} {tys : List (ClassId × FieldType)} {o : zO} {z : Nat} (E : zEnv tys) : zKnW l D vwCl tys o z (zXX o z) zTs zprog2 zyx66d :=
  zkn_ml E (fun g => fun _ h => absurd h List.not_mem_nil) (show zget zprog2 260 = some mX8_oneOf from rfl) rfl (by decide) (by decide) (by decide) (by decide) zyx66e
theorem zyx67c0 : zchkX [] zprog2 (zovW [zyx66d]) 100000 kX8_number [] [zyx67q0] [zyx67q0] = true := zall_ok zyg10_ok (k := 56) (a := zbzyx67c0) rfl
theorem zyx67_k0 {l : Launch} {D : va_G} {tys : List (ClassId × FieldType)} {o : zO} {z : Nat} (E : zEnv tys) : zPtOk l D vwCl tys o z (zXX o z) zTs mX8_number zyx67q0 := zkn_pt E (fun g => List.forall_mem_cons.mpr ⟨zyx66 (o := zwith o g) E, fun _ h => absurd h List.not_mem_nil⟩) (show zget zprog2 259 = some mX8_number from rfl) (fun _ h => absurd h List.not_mem_nil) zyx67c0 _ (List.mem_of_getElem? (i := 0) rfl)
theorem zyx67e : zrunw zprog2 (zovW [zyx66d]) 100000 (zcutW [] none ((zyx67r, zyh1308), 5, 600) [zyx67q0]) 5 600 kX8_number (zkin zyx67r zyh1308) 0 (zargs 0 zyx67a, [], (zyh1307.1, zyh1307.2.1, 0), 0, 0) = true := zall_ok zyg10_ok (k := 57) (a := zbzyx67e) rfl
theorem zyx67 {l : Launch} {D : va_G} {tys : List (ClassId × FieldType)} {o : zO} {z : Nat} (E : zEnv tys) : zKnW l D vwCl tys o z (zXX o z) zTs zprog2 zyx67d :=
  zkn_mk E (fun g => List.forall_mem_cons.mpr ⟨zyx66 (o := zwith o g) E, fun _ h => absurd h List.not_mem_nil⟩) (show zget zprog2 259 = some mX8_number from rfl) rfl (by decide) (by decide) (by decide) (by decide) (G := [zyx67q0]) (List.forall_mem_cons.mpr ⟨zyx67_k0 E, fun _ h => absurd h List.not_mem_nil⟩) zyx67e
theorem zyx68e : zrunw zprog2 (zovW [zyx65d, zyx62d, zyx54d, zyx67d, zyx53d]) 100000 (zcutW [] none ((zyx68r, zyh1308), 12, 1500) []) 12 1500 k2X8_thing (zkin zyx68r zyh1308) 0 (zargs 0 zyx68a, [], (zyh1307.1, zyh1307.2.1, 0), 0, 0) = true := zall_ok zyg10_ok (k := 58) (a := zbzyx68e) rfl
theorem zyx68 {l : Launch} {D : va_G} {tys : List (ClassId × FieldType)} {o : zO} {z : Nat} (E : zEnv tys) : zKnW l D vwCl tys o z (zXX o z) zTs zprog2 zyx68d :=
  zkn_mk E (fun g => List.forall_mem_cons.mpr ⟨zyx65 (o := zwith o g) E, List.forall_mem_cons.mpr ⟨zyx62 (o := zwith o g) E, List.forall_mem_cons.mpr ⟨zyx54 (o := zwith o g) E, List.forall_mem_cons.mpr ⟨zyx67 (o := zwith o g) E, List.forall_mem_cons.mpr ⟨zyx53 (o := zwith o g) E, fun _ h => absurd h List.not_mem_nil⟩⟩⟩⟩⟩) (show zget zprog2 292 = some m2X8_thing from rfl) rfl (by decide) (by decide) (by decide) (by decide) (G := []) (fun _ h => absurd h List.not_mem_nil) zyx68e
theorem zyx69c : zchkX [(94, 15)] zprog2 (zovW [zyx62d, zyx68d]) 100000 k2X8_product [zyx63q, zyx57q] [zyx69q] [zyx69q] = true := zall_ok zyg10_ok (k := 59) (a := zbzyx69c) rfl
theorem zyx69k {l : Launch} {D : va_G} {tys : List (ClassId × FieldType)} {o : zO} {z : Nat} (E : zEnv tys) : zPtOk l D vwCl tys o z (zXX o z) zTs m2X8_product zyx69q := zkn_pt E (fun g => List.forall_mem_cons.mpr ⟨zyx62 (o := zwith o g) E, List.forall_mem_cons.mpr ⟨zyx68 (o := zwith o g) E, fun _ h => absurd h List.not_mem_nil⟩⟩) (show zget zprog2 265 = some m2X8_product from rfl) (List.forall_mem_cons.mpr ⟨zyx63k E, List.forall_mem_cons.mpr ⟨zyx57k E, fun _ h => absurd h List.not_mem_nil⟩⟩) zyx69c _ List.mem_cons_self
theorem zyx69e : zrunw zprog2 (zovW [zyx62d, zyx68d]) 100000 (zcutW [(94, 15)] none ((zyx69r, zyh1308), 13, 1620) [zyx69q, zyx63q, zyx57q]) 13 1620 k2X8_product (zkin zyx69r zyh1308) 0 (zargs 0 zyx69a, [], (zyh1307.1, zyh1307.2.1, 0), 0, 0) = true := zall_ok zyg10_ok (k := 60) (a := zbzyx69e) rfl
theorem zyx69 {l : Launch} {D : va_G} {tys : List (ClassId × FieldType)} {o : zO} {z : Nat} (E : zEnv tys) : zKnW l D vwCl tys o z (zXX o z) zTs zprog2 zyx69d :=
  zkn_mk E (fun g => List.forall_mem_cons.mpr ⟨zyx62 (o := zwith o g) E, List.forall_mem_cons.mpr ⟨zyx68 (o := zwith o g) E, fun _ h => absurd h List.not_mem_nil⟩⟩) (show zget zprog2 265 = some m2X8_product from rfl) rfl (by decide) (by decide) (by decide) (by decide) (G := [zyx69q, zyx63q, zyx57q]) (List.forall_mem_cons.mpr ⟨zyx69k E, List.forall_mem_cons.mpr ⟨zyx63k E, List.forall_mem_cons.mpr ⟨zyx57k E, fun _ h => absurd h List.not_mem_nil⟩⟩⟩) zyx69e
theorem zyx70c : zchkX [(94, 15)] zprog2 (zovW [zyx63d, zyx69d]) 100000 kX8_sum [zyx64q, zyx58q] [zyx70q] [zyx70q] = true := zall_ok zyg10_ok (k := 61) (a := zbzyx70c) rfl
theorem zyx70k {l : Launch} {D : va_G} {tys : List (ClassId × FieldType)} {o : zO} {z : Nat} (E : zEnv tys) : zPtOk l D vwCl tys o z (zXX o z) zTs mX8_sum zyx70q := zkn_pt E (fun g => List.forall_mem_cons.mpr ⟨zyx63 (o := zwith o g) E, List.forall_mem_cons.mpr ⟨zyx69 (o := zwith o g) E, fun _ h => absurd h List.not_mem_nil⟩⟩) (show zget zprog2 284 = some mX8_sum from rfl) (List.forall_mem_cons.mpr ⟨zyx64k E, List.forall_mem_cons.mpr ⟨zyx58k E, fun _ h => absurd h List.not_mem_nil⟩⟩) zyx70c _ List.mem_cons_self
theorem zyx70e : zrunw zprog2 (zovW [zyx63d, zyx69d]) 100000 (zcutW [(94, 15)] none ((zyx70r, zyh1308), 14, 1740) [zyx70q, zyx64q, zyx58q]) 14 1740 kX8_sum (zkin zyx70r zyh1308) 0 (zargs 0 zyx70a, [], (zyh1307.1, zyh1307.2.1, 0), 0, 0) = true := zall_ok zyg10_ok (k := 62) (a := zbzyx70e) rfl
theorem zyx70 {l : Launch} {D : va_G} {tys : List (ClassId × FieldType)} {o : zO} {z : Nat} (E : zEnv tys) : zKnW l D vwCl tys o z (zXX o z) zTs zprog2 zyx70d :=
  zkn_mk E (fun g => List.forall_mem_cons.mpr ⟨zyx63 (o := zwith o g) E, List.forall_mem_cons.mpr ⟨zyx69 (o := zwith o g) E, fun _ h => absurd h List.not_mem_nil⟩⟩) (show zget zprog2 284 = some mX8_sum from rfl) rfl (by decide) (by decide) (by decide) (by decide) (G := [zyx70q, zyx64q, zyx58q]) (List.forall_mem_cons.mpr ⟨zyx70k E, List.forall_mem_cons.mpr ⟨zyx64k E, List.forall_mem_cons.mpr ⟨zyx58k E, fun _ h => absurd h List.not_mem_nil⟩⟩⟩) zyx70e
theorem zyx71e : zrunw zprog2 (zovW [zyx64d, zyx70d, zyx53d]) 100000 (zcutW [] none ((zyx71r, zyh1308), 15, 1860) []) 15 1860 kX8_heldBy (zkin zyx71r zyh1308) 0 (zargs 0 zyx71a, [], (zyh1307.1, zyh1307.2.1, 0), 0, 0) = true := zall_ok zyg10_ok (k := 63) (a := zbzyx71e) rfl
theorem zyx71 {l : Launch} {D : va_G} {tys : List (ClassId × FieldType)} {o : zO} {z : Nat} (E : zEnv tys) : zKnW l D vwCl tys o z (zXX o z) zTs zprog2 zyx71d :=
  zkn_mk E (fun g => List.forall_mem_cons.mpr ⟨zyx64 (o := zwith o g) E, List.forall_mem_cons.mpr ⟨zyx70 (o := zwith o g) E, List.forall_mem_cons.mpr ⟨zyx53 (o := zwith o g) E, fun _ h => absurd h List.not_mem_nil⟩⟩⟩) (show zget zprog2 229 = some mX8_heldBy from rfl) rfl (by decide) (by decide) (by decide) (by decide) (G := []) (fun _ h => absurd h List.not_mem_nil) zyx71e
theorem zyx72e : zrunw zprog2 (zovW []) 100000 zcut0 4 480 kX8_oneOf (zkinL zyx72q) 0 (zargs 0 zyx72a, [], (zyh1304.1, zyh1304.2.1, 0), 0, 0) = true := zall_ok zyg10_ok (k := 64) (a := zbzyx72e) rfl
theorem zyx72 {l : Launch} {D : va_G} {tys : List (ClassId × FieldType)} {o : zO} {z : Nat} (E : zEnv tys) : zKnW l D vwCl tys o z (zXX o z) zTs zprog2 zyx72d :=
  zkn_ml E (fun g => fun _ h => absurd h List.not_mem_nil) (show zget zprog2 260 = some mX8_oneOf from rfl) rfl (by decide) (by decide) (by decide) (by decide) zyx72e
theorem zyx73c0 : zchkX [] zprog2 (zovW [zyx72d]) 100000 kX8_number [] [zyx73q0] [zyx73q0] = true := zall_ok zyg10_ok (k := 65) (a := zbzyx73c0) rfl
theorem zyx73_k0 {l : Launch} {D : va_G} {tys : List (ClassId × FieldType)} {o : zO} {z : Nat} (E : zEnv tys) : zPtOk l D vwCl tys o z (zXX o z) zTs mX8_number zyx73q0 := zkn_pt E (fun g => List.forall_mem_cons.mpr ⟨zyx72 (o := zwith o g) E, fun _ h => absurd h List.not_mem_nil⟩) (show zget zprog2 259 = some mX8_number from rfl) (fun _ h => absurd h List.not_mem_nil) zyx73c0 _ (List.mem_of_getElem? (i := 0) rfl)
theorem zyx73e : zrunw zprog2 (zovW [zyx72d]) 100000 (zcutW [] none ((zyx73r, zyh1305), 5, 600) [zyx73q0]) 5 600 kX8_number (zkin zyx73r zyh1305) 0 (zargs 0 zyx73a, [], (zyh1304.1, zyh1304.2.1, 0), 0, 0) = true := zall_ok zyg10_ok (k := 66) (a := zbzyx73e) rfl
theorem zyx73 {l : Launch} {D : va_G} {tys : List (ClassId × FieldType)} {o : zO} {z : Nat} (E : zEnv tys) : zKnW l D vwCl tys o z (zXX o z) zTs zprog2 zyx73d :=
  zkn_mk E (fun g => List.forall_mem_cons.mpr ⟨zyx72 (o := zwith o g) E, fun _ h => absurd h List.not_mem_nil⟩) (show zget zprog2 259 = some mX8_number from rfl) rfl (by decide) (by decide) (by decide) (by decide) (G := [zyx73q0]) (List.forall_mem_cons.mpr ⟨zyx73_k0 E, fun _ h => absurd h List.not_mem_nil⟩) zyx73e
theorem zyx74e : zrunw zprog2 (zovW [zyx71d, zyx68d, zyx53d, zyx73d, zyx52d]) 100000 (zcutW [] none ((zyx74r, zyh1305), 16, 1980) []) 16 1980 k2X8_thing (zkin zyx74r zyh1305) 0 (zargs 0 zyx74a, [], (zyh1304.1, zyh1304.2.1, 0), 0, 0) = true := zall_ok zyg10_ok (k := 67) (a := zbzyx74e) rfl
theorem zyx74 {l : Launch} {D : va_G} {tys : List (ClassId × FieldType)} {o : zO} {z : Nat} (E : zEnv tys) : zKnW l D vwCl tys o z (zXX o z) zTs zprog2 zyx74d :=
  zkn_mk E (fun g => List.forall_mem_cons.mpr ⟨zyx71 (o := zwith o g) E, List.forall_mem_cons.mpr ⟨zyx68 (o := zwith o g) E, List.forall_mem_cons.mpr ⟨zyx53 (o := zwith o g) E, List.forall_mem_cons.mpr ⟨zyx73 (o := zwith o g) E, List.forall_mem_cons.mpr ⟨zyx52 (o := zwith o g) E, fun _ h => absurd h List.not_mem_nil⟩⟩⟩⟩⟩) (show zget zprog2 292 = some m2X8_thing from rfl) rfl (by decide) (by decide) (by decide) (by decide) (G := []) (fun _ h => absurd h List.not_mem_nil) zyx74e
theorem zyx75c : zchkX [(94, 15)] zprog2 (zovW [zyx68d, zyx74d]) 100000 k2X8_product [zyx69q, zyx63q, zyx57q] [zyx75q] [zyx75q] = true := zall_ok zyg10_ok (k := 68) (a := zbzyx75c) rfl
theorem zyx75k {l : Launch} {D : va_G} {tys : List (ClassId × FieldType)} {o : zO} {z : Nat} (E : zEnv tys) : zPtOk l D vwCl tys o z (zXX o z) zTs m2X8_product zyx75q := zkn_pt E (fun g => List.forall_mem_cons.mpr ⟨zyx68 (o := zwith o g) E, List.forall_mem_cons.mpr ⟨zyx74 (o := zwith o g) E, fun _ h => absurd h List.not_mem_nil⟩⟩) (show zget zprog2 265 = some m2X8_product from rfl) (List.forall_mem_cons.mpr ⟨zyx69k E, List.forall_mem_cons.mpr ⟨zyx63k E, List.forall_mem_cons.mpr ⟨zyx57k E, fun _ h => absurd h List.not_mem_nil⟩⟩⟩) zyx75c _ List.mem_cons_self
theorem zyx75e : zrunw zprog2 (zovW [zyx68d, zyx74d]) 100000 (zcutW [(94, 15)] none ((zyx75r, zyh1305), 17, 2100) [zyx75q, zyx69q, zyx63q, zyx57q]) 17 2100 k2X8_product (zkin zyx75r zyh1305) 0 (zargs 0 zyx75a, [], (zyh1304.1, zyh1304.2.1, 0), 0, 0) = true := zall_ok zyg10_ok (k := 69) (a := zbzyx75e) rfl
theorem zyx75 {l : Launch} {D : va_G} {tys : List (ClassId × FieldType)} {o : zO} {z : Nat} (E : zEnv tys) : zKnW l D vwCl tys o z (zXX o z) zTs zprog2 zyx75d :=
  zkn_mk E (fun g => List.forall_mem_cons.mpr ⟨zyx68 (o := zwith o g) E, List.forall_mem_cons.mpr ⟨zyx74 (o := zwith o g) E, fun _ h => absurd h List.not_mem_nil⟩⟩) (show zget zprog2 265 = some m2X8_product from rfl) rfl (by decide) (by decide) (by decide) (by decide) (G := [zyx75q, zyx69q, zyx63q, zyx57q]) (List.forall_mem_cons.mpr ⟨zyx75k E, List.forall_mem_cons.mpr ⟨zyx69k E, List.forall_mem_cons.mpr ⟨zyx63k E, List.forall_mem_cons.mpr ⟨zyx57k E, fun _ h => absurd h List.not_mem_nil⟩⟩⟩⟩) zyx75e

