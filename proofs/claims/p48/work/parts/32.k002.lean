noncomputable def zyc236 : zC := .inr (7, [zyv120, zyv120, zyv120, zyv120, zyv120, zyv120, zyv120, zyv120, zyv120, zyv120, zyv120, zyv120, zyv120, zyv15, zyv120, zyv15])
noncomputable def zyc237 : zC := .inr (6, [zyv120, zyv15])
noncomputable def zyc238 : zC := .inl (0, 80, [[], [zyv15]])
noncomputable def zyc239 : zC := .inr (0, [zyv120, zyv120, zyv120, zyv120, zyv120, zyv120, zyv15, zyv15, zyv15, zyv120, zyv15, zyv15])
noncomputable def zyc240 : zC := .inr (3, [zyv120, zyv120, zyv120, zyv120, zyv15, zyv15, zyv15, zyv15, zyv36])
noncomputable def zyc241 : zC := .inr (5, [zyv120, zyv120, zyv15, zyv15, zyv15, zyv15])
noncomputable def zyc242 : zC := .inr (2, [zyv120, zyv15, zyv15])
noncomputable def zyc243 : zC := .inl (9, 12, [[], [zyv120]])
noncomputable def zyc244 : zC := .inl (9, 2, [[], [zyv120]])
noncomputable def zyc245 : zC := .inr (4, [zyv120, zyv120, zyv120, zyv120, zyv120, zyv120, zyv120, zyv120, zyv120, zyv120, zyv120, zyv120, zyv120, zyv15, zyv100])
noncomputable def zyc246 : zC := .inl (1, 64, [[], [zyv100]])
noncomputable def zyc247 : zC := .inr (1, [zyv120, zyv15])
noncomputable def zyc248 : zC := .inl (0, 12, [[], [zyv15]])
def zyv319 : zAV := .inl ((.ofNat 40, .ofNat 40), none)
noncomputable def zyc249 : zC := .inr (8, [zyv120, zyv15, zyv15, zyv15, zyv120, zyv120, zyv120, zyv120, zyv15, zyv120, zyv15, zyv15, zyv118, zyv17, zyv319, zyv35, zyv122, zyv120, zyv120, zyv120, zyv15, zyv36, zyv127, zyv120, zyv15, zyv120, zyv120, zyv15, zyv15, zyv120, zyv120, zyv120, zyv120, zyv120, zyv120, zyv120, zyv120, zyv120, zyv120, zyv15, zyv120, zyv120, zyv120, zyv120, zyv15, zyv15, zyv15, zyv15, zyv120, zyv120, zyv120])
noncomputable def zyc250 : zC := .inl (0, 27, [[], [zyv15]])
noncomputable def zyc251 : zC := .inl (3, 80, [[], [zyv150]])
noncomputable def zyc252 : zC := .inl (0, 24, [[], [zyv15]])
noncomputable def zyc253 : zC := .inl (0, 324, [[], [zyv15]])
noncomputable def zyc254 : zC := .inl (0, 240, [[], [zyv15]])
noncomputable def zyc255 : zC := .inl (0, 54, [[], [zyv15]])
noncomputable def zyc256 : zC := .inl (1, 1, [[], [zyv100]])
noncomputable def zyr178 : List zC := [zyc236, zyc237, zyc238, zyc239, zyc8, zyc8, zyc8, zyc57, zyc8, zyc8, zyc240, zyc10, zyc10, zyc10, zyc12, zyc241]
noncomputable def zyr179 : List zC := [zyc8, zyc8, zyc241, zyc8, zyc8, zyc241, zyc8, zyc8, zyc242, zyc243, zyc241, zyc8, zyc8, zyc241, zyc8, zyc8]
noncomputable def zyr180 : List zC := [zyc241, zyc8, zyc8, zyc241, zyc8, zyc8, zyc241, zyc8, zyc8, zyc241, zyc8, zyc8, zyc241, zyc8, zyc8, zyc241]
noncomputable def zyr181 : List zC := [zyc8, zyc8, zyc241, zyc8, zyc8, zyc241, zyc8, zyc8, zyc241, zyc8, zyc8, zyc241, zyc8, zyc8, zyc244, zyc33]
noncomputable def zyr182 : List zC := [zyc245, zyc8, zyc8, zyc8, zyc8, zyc246, zyc45, zyc39, zyc39, zyc40, zyc41, zyc42, zyc43, zyc41, zyc247, zyc45]
noncomputable def zyr183 : List zC := [zyc248, zyc248, zyc248, zyc240, zyc10, zyc10, zyc10, zyc12, zyc241, zyc8, zyc8, zyc241, zyc8, zyc8, zyc249, zyc250]
noncomputable def zyr184 : List zC := [zyc8, zyc8, zyc8, zyc251, zyc54, zyc252, zyc56, zyc56, zyc57, zyc253, zyc250, zyc250, zyc8, zyc8, zyc254, zyc8]
noncomputable def zyr185 : List zC := [zyc8, zyc8, zyc8, zyc42, zyc40, zyc40, zyc8, zyc43, zyc248, zyc248, zyc255, zyc33, zyc64, zyc256, zycF, zycF]
noncomputable def zyh173 : zH := (126, [zyr178, zyr179, zyr180, zyr181, zyr182, zyr183, zyr184, zyr185], 0)
def zyv320 : zAV := .inr (.inr (.inl 94))
def zyv321 : zAV := .inl ((.ofNat 45, .ofNat 62), none)
def zym9 : Nat := 9750459981682161823013815140925344762164019828187247898044165338828361330504195638089528947564597255689892296294894991252982286451541772476651719277507982062256701877281872573108875731140357938095507079933419497033657972202182973736386333513387432336561250408766093619430038275108356102219392754021458805999519768660741551857170704247221768015943507145442922785830195645740748449543480072194129392446089299630544348955627430507353510087294783476847524720596314464038312865582181923970438264048613866444277015966465883664321688068610276147505107629831986868948946568231682301881674654563565539563914219061330608696083779465529397570286696365262279907415927910031117355807013746818747019375498079328922945838354526400885744587347037839421811903854745599079510635818841487975490261098501295092446632038407823211155179692006906222077502581591041564616347473052339625491962156123432856983868467678076452791326322074884981445510074167896552013243717304803433727087796529875457981361723194742211056438222002530694162128193543815756421325104109778831460941640459752325147895064813536867603212559072588523299953692974901956659444647478299162713827540440752165159864061938637926465613327662246059149849205119711077812011456158204029007351283901570669051943964756205164003613307314336350752701828015559797956379082826112546289883214141276867070014541872349677258921775340921242872345082578510646529572746205776856145394014170624142741810222386066799601296460808886651282848326161962498590297710347273522783956026186529530187281357016145663320843169446212330382181346354221972439735866661798036853903848148466421271065181342758991647309220130517450469958267978143742953314279245527818463123515329225931582603490415768520857705602534791666238577121814006729570396128132702218170699837498390129987834127633570005415320036199890944
noncomputable def zyh174 : zH := (126, [zyr178, zyr179, zyr180, zyr181, zyr182, zyr183, zyr184, zyr185], zym9)
def zyv322 : zAV := .inl ((.ofNat 1, .ofNat 40), none)
noncomputable def zyc257 : zC := .inr (8, [zyv120, zyv15, zyv15, zyv15, zyv120, zyv120, zyv120, zyv120, zyv15, zyv120, zyv15, zyv15, zyv118, zyv17, zyv319, zyv322, zyv166, zyv120, zyv120, zyv120, zyv15, zyv36, zyv127, zyv120, zyv15, zyv120, zyv120, zyv15, zyv15, zyv120, zyv120, zyv120, zyv120, zyv120, zyv120, zyv120, zyv120, zyv120, zyv120, zyv15, zyv120, zyv120, zyv120, zyv120, zyv15, zyv15, zyv15, zyv15, zyv120, zyv120, zyv120])
noncomputable def zyr186 : List zC := [zyc248, zyc248, zyc248, zyc240, zyc10, zyc10, zyc10, zyc12, zyc241, zyc8, zyc8, zyc241, zyc8, zyc8, zyc257, zyc250]
noncomputable def zyh175 : zH := (126, [zyr178, zyr179, zyr180, zyr181, zyr182, zyr186, zyr184, zyr185], zym9)
noncomputable def zyc258 : zC := .inr (8, [zyv120, zyv15, zyv15, zyv15, zyv120, zyv120, zyv120, zyv120, zyv15, zyv120, zyv15, zyv15, zyv118, zyv17, zyv319, zyv322, zyv122, zyv120, zyv120, zyv120, zyv15, zyv36, zyv127, zyv120, zyv15, zyv120, zyv120, zyv15, zyv15, zyv120, zyv120, zyv120, zyv120, zyv120, zyv120, zyv120, zyv120, zyv120, zyv120, zyv15, zyv120, zyv120, zyv120, zyv120, zyv15, zyv15, zyv15, zyv15, zyv120, zyv120, zyv120])
noncomputable def zyr187 : List zC := [zyc248, zyc248, zyc248, zyc240, zyc10, zyc10, zyc10, zyc12, zyc241, zyc8, zyc8, zyc241, zyc8, zyc8, zyc258, zyc250]
noncomputable def zyh176 : zH := (126, [zyr178, zyr179, zyr180, zyr181, zyr182, zyr187, zyr184, zyr185], 0)
def zyv323 : zAV := .inl ((.ofNat 41, .ofNat 62), none)
noncomputable def zyh177 : zH := (126, [zyr178, zyr179, zyr180, zyr181, zyr182, zyr187, zyr184, zyr185], zym9)
def zyv324 : zAV := .inl ((.ofNat 2, .ofNat 40), none)
noncomputable def zyc259 : zC := .inr (8, [zyv120, zyv15, zyv15, zyv15, zyv120, zyv120, zyv120, zyv120, zyv15, zyv120, zyv15, zyv15, zyv118, zyv17, zyv319, zyv324, zyv166, zyv120, zyv120, zyv120, zyv15, zyv36, zyv127, zyv120, zyv15, zyv120, zyv120, zyv15, zyv15, zyv120, zyv120, zyv120, zyv120, zyv120, zyv120, zyv120, zyv120, zyv120, zyv120, zyv15, zyv120, zyv120, zyv120, zyv120, zyv15, zyv15, zyv15, zyv15, zyv120, zyv120, zyv120])
noncomputable def zyr188 : List zC := [zyc248, zyc248, zyc248, zyc240, zyc10, zyc10, zyc10, zyc12, zyc241, zyc8, zyc8, zyc241, zyc8, zyc8, zyc259, zyc250]
noncomputable def zyh178 : zH := (126, [zyr178, zyr179, zyr180, zyr181, zyr182, zyr188, zyr184, zyr185], zym9)
noncomputable def zyc260 : zC := .inr (8, [zyv120, zyv15, zyv15, zyv15, zyv120, zyv120, zyv120, zyv120, zyv15, zyv120, zyv15, zyv15, zyv118, zyv17, zyv319, zyv324, zyv122, zyv120, zyv120, zyv120, zyv15, zyv36, zyv127, zyv120, zyv15, zyv120, zyv120, zyv15, zyv15, zyv120, zyv120, zyv120, zyv120, zyv120, zyv120, zyv120, zyv120, zyv120, zyv120, zyv15, zyv120, zyv120, zyv120, zyv120, zyv15, zyv15, zyv15, zyv15, zyv120, zyv120, zyv120])
noncomputable def zyr189 : List zC := [zyc248, zyc248, zyc248, zyc240, zyc10, zyc10, zyc10, zyc12, zyc241, zyc8, zyc8, zyc241, zyc8, zyc8, zyc260, zyc250]
noncomputable def zyh179 : zH := (126, [zyr178, zyr179, zyr180, zyr181, zyr182, zyr189, zyr184, zyr185], 0)
noncomputable def zyh180 : zH := (126, [zyr178, zyr179, zyr180, zyr181, zyr182, zyr189, zyr184, zyr185], zym9)
def zyv325 : zAV := .inl ((.ofNat 3, .ofNat 40), none)
noncomputable def zyc261 : zC := .inr (8, [zyv120, zyv15, zyv15, zyv15, zyv120, zyv120, zyv120, zyv120, zyv15, zyv120, zyv15, zyv15, zyv118, zyv17, zyv319, zyv325, zyv166, zyv120, zyv120, zyv120, zyv15, zyv36, zyv127, zyv120, zyv15, zyv120, zyv120, zyv15, zyv15, zyv120, zyv120, zyv120, zyv120, zyv120, zyv120, zyv120, zyv120, zyv120, zyv120, zyv15, zyv120, zyv120, zyv120, zyv120, zyv15, zyv15, zyv15, zyv15, zyv120, zyv120, zyv120])
noncomputable def zyr190 : List zC := [zyc248, zyc248, zyc248, zyc240, zyc10, zyc10, zyc10, zyc12, zyc241, zyc8, zyc8, zyc241, zyc8, zyc8, zyc261, zyc250]
noncomputable def zyh181 : zH := (126, [zyr178, zyr179, zyr180, zyr181, zyr182, zyr190, zyr184, zyr185], zym9)
noncomputable def zyc262 : zC := .inr (8, [zyv120, zyv15, zyv15, zyv15, zyv120, zyv120, zyv120, zyv120, zyv15, zyv120, zyv15, zyv15, zyv118, zyv17, zyv319, zyv325, zyv122, zyv120, zyv120, zyv120, zyv15, zyv36, zyv127, zyv120, zyv15, zyv120, zyv120, zyv15, zyv15, zyv120, zyv120, zyv120, zyv120, zyv120, zyv120, zyv120, zyv120, zyv120, zyv120, zyv15, zyv120, zyv120, zyv120, zyv120, zyv15, zyv15, zyv15, zyv15, zyv120, zyv120, zyv120])
noncomputable def zyr191 : List zC := [zyc248, zyc248, zyc248, zyc240, zyc10, zyc10, zyc10, zyc12, zyc241, zyc8, zyc8, zyc241, zyc8, zyc8, zyc262, zyc250]
noncomputable def zyh182 : zH := (126, [zyr178, zyr179, zyr180, zyr181, zyr182, zyr191, zyr184, zyr185], 0)
noncomputable def zyh183 : zH := (126, [zyr178, zyr179, zyr180, zyr181, zyr182, zyr191, zyr184, zyr185], zym9)
def zyv326 : zAV := .inl ((.ofNat 4, .ofNat 40), none)
noncomputable def zyc263 : zC := .inr (8, [zyv120, zyv15, zyv15, zyv15, zyv120, zyv120, zyv120, zyv120, zyv15, zyv120, zyv15, zyv15, zyv118, zyv17, zyv319, zyv326, zyv166, zyv120, zyv120, zyv120, zyv15, zyv36, zyv127, zyv120, zyv15, zyv120, zyv120, zyv15, zyv15, zyv120, zyv120, zyv120, zyv120, zyv120, zyv120, zyv120, zyv120, zyv120, zyv120, zyv15, zyv120, zyv120, zyv120, zyv120, zyv15, zyv15, zyv15, zyv15, zyv120, zyv120, zyv120])
noncomputable def zyr192 : List zC := [zyc248, zyc248, zyc248, zyc240, zyc10, zyc10, zyc10, zyc12, zyc241, zyc8, zyc8, zyc241, zyc8, zyc8, zyc263, zyc250]
noncomputable def zyh184 : zH := (126, [zyr178, zyr179, zyr180, zyr181, zyr182, zyr192, zyr184, zyr185], zym9)
noncomputable def zyc264 : zC := .inr (8, [zyv120, zyv15, zyv15, zyv15, zyv120, zyv120, zyv120, zyv120, zyv15, zyv120, zyv15, zyv15, zyv118, zyv17, zyv319, zyv326, zyv122, zyv120, zyv120, zyv120, zyv15, zyv36, zyv127, zyv120, zyv15, zyv120, zyv120, zyv15, zyv15, zyv120, zyv120, zyv120, zyv120, zyv120, zyv120, zyv120, zyv120, zyv120, zyv120, zyv15, zyv120, zyv120, zyv120, zyv120, zyv15, zyv15, zyv15, zyv15, zyv120, zyv120, zyv120])
noncomputable def zyr193 : List zC := [zyc248, zyc248, zyc248, zyc240, zyc10, zyc10, zyc10, zyc12, zyc241, zyc8, zyc8, zyc241, zyc8, zyc8, zyc264, zyc250]
noncomputable def zyh185 : zH := (126, [zyr178, zyr179, zyr180, zyr181, zyr182, zyr193, zyr184, zyr185], 0)
noncomputable def zyh186 : zH := (126, [zyr178, zyr179, zyr180, zyr181, zyr182, zyr193, zyr184, zyr185], zym9)
def zyv327 : zAV := .inl ((.ofNat 5, .ofNat 40), none)
noncomputable def zyc265 : zC := .inr (8, [zyv120, zyv15, zyv15, zyv15, zyv120, zyv120, zyv120, zyv120, zyv15, zyv120, zyv15, zyv15, zyv118, zyv17, zyv319, zyv327, zyv166, zyv120, zyv120, zyv120, zyv15, zyv36, zyv127, zyv120, zyv15, zyv120, zyv120, zyv15, zyv15, zyv120, zyv120, zyv120, zyv120, zyv120, zyv120, zyv120, zyv120, zyv120, zyv120, zyv15, zyv120, zyv120, zyv120, zyv120, zyv15, zyv15, zyv15, zyv15, zyv120, zyv120, zyv120])
noncomputable def zyr194 : List zC := [zyc248, zyc248, zyc248, zyc240, zyc10, zyc10, zyc10, zyc12, zyc241, zyc8, zyc8, zyc241, zyc8, zyc8, zyc265, zyc250]
noncomputable def zyh187 : zH := (126, [zyr178, zyr179, zyr180, zyr181, zyr182, zyr194, zyr184, zyr185], zym9)
noncomputable def zyc266 : zC := .inr (8, [zyv120, zyv15, zyv15, zyv15, zyv120, zyv120, zyv120, zyv120, zyv15, zyv120, zyv15, zyv15, zyv118, zyv17, zyv319, zyv327, zyv122, zyv120, zyv120, zyv120, zyv15, zyv36, zyv127, zyv120, zyv15, zyv120, zyv120, zyv15, zyv15, zyv120, zyv120, zyv120, zyv120, zyv120, zyv120, zyv120, zyv120, zyv120, zyv120, zyv15, zyv120, zyv120, zyv120, zyv120, zyv15, zyv15, zyv15, zyv15, zyv120, zyv120, zyv120])
noncomputable def zyr195 : List zC := [zyc248, zyc248, zyc248, zyc240, zyc10, zyc10, zyc10, zyc12, zyc241, zyc8, zyc8, zyc241, zyc8, zyc8, zyc266, zyc250]
noncomputable def zyh188 : zH := (126, [zyr178, zyr179, zyr180, zyr181, zyr182, zyr195, zyr184, zyr185], 0)
noncomputable def zyh189 : zH := (126, [zyr178, zyr179, zyr180, zyr181, zyr182, zyr195, zyr184, zyr185], zym9)
def zyv328 : zAV := .inl ((.ofNat 6, .ofNat 40), none)
noncomputable def zyc267 : zC := .inr (8, [zyv120, zyv15, zyv15, zyv15, zyv120, zyv120, zyv120, zyv120, zyv15, zyv120, zyv15, zyv15, zyv118, zyv17, zyv319, zyv328, zyv166, zyv120, zyv120, zyv120, zyv15, zyv36, zyv127, zyv120, zyv15, zyv120, zyv120, zyv15, zyv15, zyv120, zyv120, zyv120, zyv120, zyv120, zyv120, zyv120, zyv120, zyv120, zyv120, zyv15, zyv120, zyv120, zyv120, zyv120, zyv15, zyv15, zyv15, zyv15, zyv120, zyv120, zyv120])
noncomputable def zyr196 : List zC := [zyc248, zyc248, zyc248, zyc240, zyc10, zyc10, zyc10, zyc12, zyc241, zyc8, zyc8, zyc241, zyc8, zyc8, zyc267, zyc250]
noncomputable def zyh190 : zH := (126, [zyr178, zyr179, zyr180, zyr181, zyr182, zyr196, zyr184, zyr185], zym9)
noncomputable def zyc268 : zC := .inr (8, [zyv120, zyv15, zyv15, zyv15, zyv120, zyv120, zyv120, zyv120, zyv15, zyv120, zyv15, zyv15, zyv118, zyv17, zyv319, zyv328, zyv122, zyv120, zyv120, zyv120, zyv15, zyv36, zyv127, zyv120, zyv15, zyv120, zyv120, zyv15, zyv15, zyv120, zyv120, zyv120, zyv120, zyv120, zyv120, zyv120, zyv120, zyv120, zyv120, zyv15, zyv120, zyv120, zyv120, zyv120, zyv15, zyv15, zyv15, zyv15, zyv120, zyv120, zyv120])
noncomputable def zyr197 : List zC := [zyc248, zyc248, zyc248, zyc240, zyc10, zyc10, zyc10, zyc12, zyc241, zyc8, zyc8, zyc241, zyc8, zyc8, zyc268, zyc250]
noncomputable def zyh191 : zH := (126, [zyr178, zyr179, zyr180, zyr181, zyr182, zyr197, zyr184, zyr185], 0)
noncomputable def zyh192 : zH := (126, [zyr178, zyr179, zyr180, zyr181, zyr182, zyr197, zyr184, zyr185], zym9)
def zyv329 : zAV := .inl ((.ofNat 7, .ofNat 40), none)
noncomputable def zyc269 : zC := .inr (8, [zyv120, zyv15, zyv15, zyv15, zyv120, zyv120, zyv120, zyv120, zyv15, zyv120, zyv15, zyv15, zyv118, zyv17, zyv319, zyv329, zyv166, zyv120, zyv120, zyv120, zyv15, zyv36, zyv127, zyv120, zyv15, zyv120, zyv120, zyv15, zyv15, zyv120, zyv120, zyv120, zyv120, zyv120, zyv120, zyv120, zyv120, zyv120, zyv120, zyv15, zyv120, zyv120, zyv120, zyv120, zyv15, zyv15, zyv15, zyv15, zyv120, zyv120, zyv120])
noncomputable def zyr198 : List zC := [zyc248, zyc248, zyc248, zyc240, zyc10, zyc10, zyc10, zyc12, zyc241, zyc8, zyc8, zyc241, zyc8, zyc8, zyc269, zyc250]
noncomputable def zyh193 : zH := (126, [zyr178, zyr179, zyr180, zyr181, zyr182, zyr198, zyr184, zyr185], zym9)
noncomputable def zyc270 : zC := .inr (8, [zyv120, zyv15, zyv15, zyv15, zyv120, zyv120, zyv120, zyv120, zyv15, zyv120, zyv15, zyv15, zyv118, zyv17, zyv319, zyv329, zyv122, zyv120, zyv120, zyv120, zyv15, zyv36, zyv127, zyv120, zyv15, zyv120, zyv120, zyv15, zyv15, zyv120, zyv120, zyv120, zyv120, zyv120, zyv120, zyv120, zyv120, zyv120, zyv120, zyv15, zyv120, zyv120, zyv120, zyv120, zyv15, zyv15, zyv15, zyv15, zyv120, zyv120, zyv120])
noncomputable def zyr199 : List zC := [zyc248, zyc248, zyc248, zyc240, zyc10, zyc10, zyc10, zyc12, zyc241, zyc8, zyc8, zyc241, zyc8, zyc8, zyc270, zyc250]
noncomputable def zyh194 : zH := (126, [zyr178, zyr179, zyr180, zyr181, zyr182, zyr199, zyr184, zyr185], 0)
noncomputable def zyh195 : zH := (126, [zyr178, zyr179, zyr180, zyr181, zyr182, zyr199, zyr184, zyr185], zym9)
def zyv330 : zAV := .inl ((.ofNat 8, .ofNat 40), none)
noncomputable def zyc271 : zC := .inr (8, [zyv120, zyv15, zyv15, zyv15, zyv120, zyv120, zyv120, zyv120, zyv15, zyv120, zyv15, zyv15, zyv118, zyv17, zyv319, zyv330, zyv166, zyv120, zyv120, zyv120, zyv15, zyv36, zyv127, zyv120, zyv15, zyv120, zyv120, zyv15, zyv15, zyv120, zyv120, zyv120, zyv120, zyv120, zyv120, zyv120, zyv120, zyv120, zyv120, zyv15, zyv120, zyv120, zyv120, zyv120, zyv15, zyv15, zyv15, zyv15, zyv120, zyv120, zyv120])
noncomputable def zyr200 : List zC := [zyc248, zyc248, zyc248, zyc240, zyc10, zyc10, zyc10, zyc12, zyc241, zyc8, zyc8, zyc241, zyc8, zyc8, zyc271, zyc250]
noncomputable def zyh196 : zH := (126, [zyr178, zyr179, zyr180, zyr181, zyr182, zyr200, zyr184, zyr185], zym9)
noncomputable def zyc272 : zC := .inr (8, [zyv120, zyv15, zyv15, zyv15, zyv120, zyv120, zyv120, zyv120, zyv15, zyv120, zyv15, zyv15, zyv118, zyv17, zyv319, zyv330, zyv122, zyv120, zyv120, zyv120, zyv15, zyv36, zyv127, zyv120, zyv15, zyv120, zyv120, zyv15, zyv15, zyv120, zyv120, zyv120, zyv120, zyv120, zyv120, zyv120, zyv120, zyv120, zyv120, zyv15, zyv120, zyv120, zyv120, zyv120, zyv15, zyv15, zyv15, zyv15, zyv120, zyv120, zyv120])
noncomputable def zyr201 : List zC := [zyc248, zyc248, zyc248, zyc240, zyc10, zyc10, zyc10, zyc12, zyc241, zyc8, zyc8, zyc241, zyc8, zyc8, zyc272, zyc250]
noncomputable def zyh197 : zH := (126, [zyr178, zyr179, zyr180, zyr181, zyr182, zyr201, zyr184, zyr185], 0)
noncomputable def zyh198 : zH := (126, [zyr178, zyr179, zyr180, zyr181, zyr182, zyr201, zyr184, zyr185], zym9)
def zyv331 : zAV := .inl ((.ofNat 9, .ofNat 40), none)
noncomputable def zyc273 : zC := .inr (8, [zyv120, zyv15, zyv15, zyv15, zyv120, zyv120, zyv120, zyv120, zyv15, zyv120, zyv15, zyv15, zyv118, zyv17, zyv319, zyv331, zyv166, zyv120, zyv120, zyv120, zyv15, zyv36, zyv127, zyv120, zyv15, zyv120, zyv120, zyv15, zyv15, zyv120, zyv120, zyv120, zyv120, zyv120, zyv120, zyv120, zyv120, zyv120, zyv120, zyv15, zyv120, zyv120, zyv120, zyv120, zyv15, zyv15, zyv15, zyv15, zyv120, zyv120, zyv120])
noncomputable def zyr202 : List zC := [zyc248, zyc248, zyc248, zyc240, zyc10, zyc10, zyc10, zyc12, zyc241, zyc8, zyc8, zyc241, zyc8, zyc8, zyc273, zyc250]
noncomputable def zyh199 : zH := (126, [zyr178, zyr179, zyr180, zyr181, zyr182, zyr202, zyr184, zyr185], zym9)
noncomputable def zyc274 : zC := .inr (8, [zyv120, zyv15, zyv15, zyv15, zyv120, zyv120, zyv120, zyv120, zyv15, zyv120, zyv15, zyv15, zyv118, zyv17, zyv319, zyv331, zyv122, zyv120, zyv120, zyv120, zyv15, zyv36, zyv127, zyv120, zyv15, zyv120, zyv120, zyv15, zyv15, zyv120, zyv120, zyv120, zyv120, zyv120, zyv120, zyv120, zyv120, zyv120, zyv120, zyv15, zyv120, zyv120, zyv120, zyv120, zyv15, zyv15, zyv15, zyv15, zyv120, zyv120, zyv120])
noncomputable def zyr203 : List zC := [zyc248, zyc248, zyc248, zyc240, zyc10, zyc10, zyc10, zyc12, zyc241, zyc8, zyc8, zyc241, zyc8, zyc8, zyc274, zyc250]
noncomputable def zyh200 : zH := (126, [zyr178, zyr179, zyr180, zyr181, zyr182, zyr203, zyr184, zyr185], 0)
noncomputable def zyh201 : zH := (126, [zyr178, zyr179, zyr180, zyr181, zyr182, zyr203, zyr184, zyr185], zym9)
def zyv332 : zAV := .inl ((.ofNat 10, .ofNat 40), none)
noncomputable def zyc275 : zC := .inr (8, [zyv120, zyv15, zyv15, zyv15, zyv120, zyv120, zyv120, zyv120, zyv15, zyv120, zyv15, zyv15, zyv118, zyv17, zyv319, zyv332, zyv166, zyv120, zyv120, zyv120, zyv15, zyv36, zyv127, zyv120, zyv15, zyv120, zyv120, zyv15, zyv15, zyv120, zyv120, zyv120, zyv120, zyv120, zyv120, zyv120, zyv120, zyv120, zyv120, zyv15, zyv120, zyv120, zyv120, zyv120, zyv15, zyv15, zyv15, zyv15, zyv120, zyv120, zyv120])
noncomputable def zyr204 : List zC := [zyc248, zyc248, zyc248, zyc240, zyc10, zyc10, zyc10, zyc12, zyc241, zyc8, zyc8, zyc241, zyc8, zyc8, zyc275, zyc250]
noncomputable def zyh202 : zH := (126, [zyr178, zyr179, zyr180, zyr181, zyr182, zyr204, zyr184, zyr185], zym9)
def zyv333 : zAV := .inl ((.ofNat 11, .ofNat 40), none)
noncomputable def zyc276 : zC := .inr (8, [zyv120, zyv15, zyv15, zyv15, zyv120, zyv120, zyv120, zyv120, zyv15, zyv120, zyv15, zyv15, zyv118, zyv17, zyv319, zyv333, zyv122, zyv120, zyv120, zyv120, zyv15, zyv36, zyv127, zyv120, zyv15, zyv120, zyv120, zyv15, zyv15, zyv120, zyv120, zyv120, zyv120, zyv120, zyv120, zyv120, zyv120, zyv120, zyv120, zyv15, zyv120, zyv120, zyv120, zyv120, zyv15, zyv15, zyv15, zyv15, zyv120, zyv120, zyv120])
noncomputable def zyr205 : List zC := [zyc248, zyc248, zyc248, zyc240, zyc10, zyc10, zyc10, zyc12, zyc241, zyc8, zyc8, zyc241, zyc8, zyc8, zyc276, zyc250]
noncomputable def zyh203 : zH := (126, [zyr178, zyr179, zyr180, zyr181, zyr182, zyr205, zyr184, zyr185], 0)
noncomputable def zyh204 : zH := (126, [zyr178, zyr179, zyr180, zyr181, zyr182, zyr205, zyr184, zyr185], zym9)
def zyv334 : zAV := .inl ((.ofNat 12, .ofNat 40), none)
noncomputable def zyc277 : zC := .inr (8, [zyv120, zyv15, zyv15, zyv15, zyv120, zyv120, zyv120, zyv120, zyv15, zyv120, zyv15, zyv15, zyv118, zyv17, zyv319, zyv334, zyv166, zyv120, zyv120, zyv120, zyv15, zyv36, zyv127, zyv120, zyv15, zyv120, zyv120, zyv15, zyv15, zyv120, zyv120, zyv120, zyv120, zyv120, zyv120, zyv120, zyv120, zyv120, zyv120, zyv15, zyv120, zyv120, zyv120, zyv120, zyv15, zyv15, zyv15, zyv15, zyv120, zyv120, zyv120])
noncomputable def zyr206 : List zC := [zyc248, zyc248, zyc248, zyc240, zyc10, zyc10, zyc10, zyc12, zyc241, zyc8, zyc8, zyc241, zyc8, zyc8, zyc277, zyc250]
noncomputable def zyh205 : zH := (126, [zyr178, zyr179, zyr180, zyr181, zyr182, zyr206, zyr184, zyr185], zym9)
noncomputable def zyc278 : zC := .inr (8, [zyv120, zyv15, zyv15, zyv15, zyv120, zyv120, zyv120, zyv120, zyv15, zyv120, zyv15, zyv15, zyv118, zyv17, zyv319, zyv334, zyv122, zyv120, zyv120, zyv120, zyv15, zyv36, zyv127, zyv120, zyv15, zyv120, zyv120, zyv15, zyv15, zyv120, zyv120, zyv120, zyv120, zyv120, zyv120, zyv120, zyv120, zyv120, zyv120, zyv15, zyv120, zyv120, zyv120, zyv120, zyv15, zyv15, zyv15, zyv15, zyv120, zyv120, zyv120])
noncomputable def zyr207 : List zC := [zyc248, zyc248, zyc248, zyc240, zyc10, zyc10, zyc10, zyc12, zyc241, zyc8, zyc8, zyc241, zyc8, zyc8, zyc278, zyc250]
noncomputable def zyh206 : zH := (126, [zyr178, zyr179, zyr180, zyr181, zyr182, zyr207, zyr184, zyr185], 0)
noncomputable def zyh207 : zH := (126, [zyr178, zyr179, zyr180, zyr181, zyr182, zyr207, zyr184, zyr185], zym9)
def zyv335 : zAV := .inl ((.ofNat 13, .ofNat 40), none)
noncomputable def zyc279 : zC := .inr (8, [zyv120, zyv15, zyv15, zyv15, zyv120, zyv120, zyv120, zyv120, zyv15, zyv120, zyv15, zyv15, zyv118, zyv17, zyv319, zyv335, zyv166, zyv120, zyv120, zyv120, zyv15, zyv36, zyv127, zyv120, zyv15, zyv120, zyv120, zyv15, zyv15, zyv120, zyv120, zyv120, zyv120, zyv120, zyv120, zyv120, zyv120, zyv120, zyv120, zyv15, zyv120, zyv120, zyv120, zyv120, zyv15, zyv15, zyv15, zyv15, zyv120, zyv120, zyv120])
noncomputable def zyr208 : List zC := [zyc248, zyc248, zyc248, zyc240, zyc10, zyc10, zyc10, zyc12, zyc241, zyc8, zyc8, zyc241, zyc8, zyc8, zyc279, zyc250]
noncomputable def zyh208 : zH := (126, [zyr178, zyr179, zyr180, zyr181, zyr182, zyr208, zyr184, zyr185], zym9)
noncomputable def zyc280 : zC := .inr (8, [zyv120, zyv15, zyv15, zyv15, zyv120, zyv120, zyv120, zyv120, zyv15, zyv120, zyv15, zyv15, zyv118, zyv17, zyv319, zyv335, zyv122, zyv120, zyv120, zyv120, zyv15, zyv36, zyv127, zyv120, zyv15, zyv120, zyv120, zyv15, zyv15, zyv120, zyv120, zyv120, zyv120, zyv120, zyv120, zyv120, zyv120, zyv120, zyv120, zyv15, zyv120, zyv120, zyv120, zyv120, zyv15, zyv15, zyv15, zyv15, zyv120, zyv120, zyv120])
noncomputable def zyr209 : List zC := [zyc248, zyc248, zyc248, zyc240, zyc10, zyc10, zyc10, zyc12, zyc241, zyc8, zyc8, zyc241, zyc8, zyc8, zyc280, zyc250]
noncomputable def zyh209 : zH := (126, [zyr178, zyr179, zyr180, zyr181, zyr182, zyr209, zyr184, zyr185], 0)
noncomputable def zyh210 : zH := (126, [zyr178, zyr179, zyr180, zyr181, zyr182, zyr209, zyr184, zyr185], zym9)
def zyv336 : zAV := .inl ((.ofNat 14, .ofNat 40), none)
noncomputable def zyc281 : zC := .inr (8, [zyv120, zyv15, zyv15, zyv15, zyv120, zyv120, zyv120, zyv120, zyv15, zyv120, zyv15, zyv15, zyv118, zyv17, zyv319, zyv336, zyv166, zyv120, zyv120, zyv120, zyv15, zyv36, zyv127, zyv120, zyv15, zyv120, zyv120, zyv15, zyv15, zyv120, zyv120, zyv120, zyv120, zyv120, zyv120, zyv120, zyv120, zyv120, zyv120, zyv15, zyv120, zyv120, zyv120, zyv120, zyv15, zyv15, zyv15, zyv15, zyv120, zyv120, zyv120])
noncomputable def zyr210 : List zC := [zyc248, zyc248, zyc248, zyc240, zyc10, zyc10, zyc10, zyc12, zyc241, zyc8, zyc8, zyc241, zyc8, zyc8, zyc281, zyc250]
noncomputable def zyh211 : zH := (126, [zyr178, zyr179, zyr180, zyr181, zyr182, zyr210, zyr184, zyr185], zym9)
noncomputable def zyc282 : zC := .inr (8, [zyv120, zyv15, zyv15, zyv15, zyv120, zyv120, zyv120, zyv120, zyv15, zyv120, zyv15, zyv15, zyv118, zyv17, zyv319, zyv336, zyv122, zyv120, zyv120, zyv120, zyv15, zyv36, zyv127, zyv120, zyv15, zyv120, zyv120, zyv15, zyv15, zyv120, zyv120, zyv120, zyv120, zyv120, zyv120, zyv120, zyv120, zyv120, zyv120, zyv15, zyv120, zyv120, zyv120, zyv120, zyv15, zyv15, zyv15, zyv15, zyv120, zyv120, zyv120])
noncomputable def zyr211 : List zC := [zyc248, zyc248, zyc248, zyc240, zyc10, zyc10, zyc10, zyc12, zyc241, zyc8, zyc8, zyc241, zyc8, zyc8, zyc282, zyc250]
noncomputable def zyh212 : zH := (126, [zyr178, zyr179, zyr180, zyr181, zyr182, zyr211, zyr184, zyr185], 0)
noncomputable def zyh213 : zH := (126, [zyr178, zyr179, zyr180, zyr181, zyr182, zyr211, zyr184, zyr185], zym9)
def zyv337 : zAV := .inl ((.ofNat 15, .ofNat 40), none)
noncomputable def zyc283 : zC := .inr (8, [zyv120, zyv15, zyv15, zyv15, zyv120, zyv120, zyv120, zyv120, zyv15, zyv120, zyv15, zyv15, zyv118, zyv17, zyv319, zyv337, zyv166, zyv120, zyv120, zyv120, zyv15, zyv36, zyv127, zyv120, zyv15, zyv120, zyv120, zyv15, zyv15, zyv120, zyv120, zyv120, zyv120, zyv120, zyv120, zyv120, zyv120, zyv120, zyv120, zyv15, zyv120, zyv120, zyv120, zyv120, zyv15, zyv15, zyv15, zyv15, zyv120, zyv120, zyv120])
noncomputable def zyr212 : List zC := [zyc248, zyc248, zyc248, zyc240, zyc10, zyc10, zyc10, zyc12, zyc241, zyc8, zyc8, zyc241, zyc8, zyc8, zyc283, zyc250]
noncomputable def zyh214 : zH := (126, [zyr178, zyr179, zyr180, zyr181, zyr182, zyr212, zyr184, zyr185], zym9)
noncomputable def zyc284 : zC := .inr (8, [zyv120, zyv15, zyv15, zyv15, zyv120, zyv120, zyv120, zyv120, zyv15, zyv120, zyv15, zyv15, zyv118, zyv17, zyv319, zyv337, zyv122, zyv120, zyv120, zyv120, zyv15, zyv36, zyv127, zyv120, zyv15, zyv120, zyv120, zyv15, zyv15, zyv120, zyv120, zyv120, zyv120, zyv120, zyv120, zyv120, zyv120, zyv120, zyv120, zyv15, zyv120, zyv120, zyv120, zyv120, zyv15, zyv15, zyv15, zyv15, zyv120, zyv120, zyv120])
noncomputable def zyr213 : List zC := [zyc248, zyc248, zyc248, zyc240, zyc10, zyc10, zyc10, zyc12, zyc241, zyc8, zyc8, zyc241, zyc8, zyc8, zyc284, zyc250]
noncomputable def zyh215 : zH := (126, [zyr178, zyr179, zyr180, zyr181, zyr182, zyr213, zyr184, zyr185], 0)
noncomputable def zyh216 : zH := (126, [zyr178, zyr179, zyr180, zyr181, zyr182, zyr213, zyr184, zyr185], zym9)
def zyv338 : zAV := .inl ((.ofNat 16, .ofNat 40), none)
noncomputable def zyc285 : zC := .inr (8, [zyv120, zyv15, zyv15, zyv15, zyv120, zyv120, zyv120, zyv120, zyv15, zyv120, zyv15, zyv15, zyv118, zyv17, zyv319, zyv338, zyv166, zyv120, zyv120, zyv120, zyv15, zyv36, zyv127, zyv120, zyv15, zyv120, zyv120, zyv15, zyv15, zyv120, zyv120, zyv120, zyv120, zyv120, zyv120, zyv120, zyv120, zyv120, zyv120, zyv15, zyv120, zyv120, zyv120, zyv120, zyv15, zyv15, zyv15, zyv15, zyv120, zyv120, zyv120])
noncomputable def zyr214 : List zC := [zyc248, zyc248, zyc248, zyc240, zyc10, zyc10, zyc10, zyc12, zyc241, zyc8, zyc8, zyc241, zyc8, zyc8, zyc285, zyc250]
noncomputable def zyh217 : zH := (126, [zyr178, zyr179, zyr180, zyr181, zyr182, zyr214, zyr184, zyr185], zym9)
noncomputable def zyc286 : zC := .inr (8, [zyv120, zyv15, zyv15, zyv15, zyv120, zyv120, zyv120, zyv120, zyv15, zyv120, zyv15, zyv15, zyv118, zyv17, zyv319, zyv338, zyv122, zyv120, zyv120, zyv120, zyv15, zyv36, zyv127, zyv120, zyv15, zyv120, zyv120, zyv15, zyv15, zyv120, zyv120, zyv120, zyv120, zyv120, zyv120, zyv120, zyv120, zyv120, zyv120, zyv15, zyv120, zyv120, zyv120, zyv120, zyv15, zyv15, zyv15, zyv15, zyv120, zyv120, zyv120])
noncomputable def zyr215 : List zC := [zyc248, zyc248, zyc248, zyc240, zyc10, zyc10, zyc10, zyc12, zyc241, zyc8, zyc8, zyc241, zyc8, zyc8, zyc286, zyc250]
noncomputable def zyh218 : zH := (126, [zyr178, zyr179, zyr180, zyr181, zyr182, zyr215, zyr184, zyr185], 0)
noncomputable def zyh219 : zH := (126, [zyr178, zyr179, zyr180, zyr181, zyr182, zyr215, zyr184, zyr185], zym9)
def zyv339 : zAV := .inl ((.ofNat 17, .ofNat 40), none)
noncomputable def zyc287 : zC := .inr (8, [zyv120, zyv15, zyv15, zyv15, zyv120, zyv120, zyv120, zyv120, zyv15, zyv120, zyv15, zyv15, zyv118, zyv17, zyv319, zyv339, zyv166, zyv120, zyv120, zyv120, zyv15, zyv36, zyv127, zyv120, zyv15, zyv120, zyv120, zyv15, zyv15, zyv120, zyv120, zyv120, zyv120, zyv120, zyv120, zyv120, zyv120, zyv120, zyv120, zyv15, zyv120, zyv120, zyv120, zyv120, zyv15, zyv15, zyv15, zyv15, zyv120, zyv120, zyv120])
noncomputable def zyr216 : List zC := [zyc248, zyc248, zyc248, zyc240, zyc10, zyc10, zyc10, zyc12, zyc241, zyc8, zyc8, zyc241, zyc8, zyc8, zyc287, zyc250]
noncomputable def zyh220 : zH := (126, [zyr178, zyr179, zyr180, zyr181, zyr182, zyr216, zyr184, zyr185], zym9)
noncomputable def zyc288 : zC := .inr (8, [zyv120, zyv15, zyv15, zyv15, zyv120, zyv120, zyv120, zyv120, zyv15, zyv120, zyv15, zyv15, zyv118, zyv17, zyv319, zyv339, zyv122, zyv120, zyv120, zyv120, zyv15, zyv36, zyv127, zyv120, zyv15, zyv120, zyv120, zyv15, zyv15, zyv120, zyv120, zyv120, zyv120, zyv120, zyv120, zyv120, zyv120, zyv120, zyv120, zyv15, zyv120, zyv120, zyv120, zyv120, zyv15, zyv15, zyv15, zyv15, zyv120, zyv120, zyv120])
noncomputable def zyr217 : List zC := [zyc248, zyc248, zyc248, zyc240, zyc10, zyc10, zyc10, zyc12, zyc241, zyc8, zyc8, zyc241, zyc8, zyc8, zyc288, zyc250]
noncomputable def zyh221 : zH := (126, [zyr178, zyr179, zyr180, zyr181, zyr182, zyr217, zyr184, zyr185], 0)
noncomputable def zyh222 : zH := (126, [zyr178, zyr179, zyr180, zyr181, zyr182, zyr217, zyr184, zyr185], zym9)
def zyv340 : zAV := .inl ((.ofNat 18, .ofNat 40), none)
noncomputable def zyc289 : zC := .inr (8, [zyv120, zyv15, zyv15, zyv15, zyv120, zyv120, zyv120, zyv120, zyv15, zyv120, zyv15, zyv15, zyv118, zyv17, zyv319, zyv340, zyv166, zyv120, zyv120, zyv120, zyv15, zyv36, zyv127, zyv120, zyv15, zyv120, zyv120, zyv15, zyv15, zyv120, zyv120, zyv120, zyv120, zyv120, zyv120, zyv120, zyv120, zyv120, zyv120, zyv15, zyv120, zyv120, zyv120, zyv120, zyv15, zyv15, zyv15, zyv15, zyv120, zyv120, zyv120])
noncomputable def zyr218 : List zC := [zyc248, zyc248, zyc248, zyc240, zyc10, zyc10, zyc10, zyc12, zyc241, zyc8, zyc8, zyc241, zyc8, zyc8, zyc289, zyc250]
noncomputable def zyh223 : zH := (126, [zyr178, zyr179, zyr180, zyr181, zyr182, zyr218, zyr184, zyr185], zym9)
noncomputable def zyc290 : zC := .inr (8, [zyv120, zyv15, zyv15, zyv15, zyv120, zyv120, zyv120, zyv120, zyv15, zyv120, zyv15, zyv15, zyv118, zyv17, zyv319, zyv340, zyv122, zyv120, zyv120, zyv120, zyv15, zyv36, zyv127, zyv120, zyv15, zyv120, zyv120, zyv15, zyv15, zyv120, zyv120, zyv120, zyv120, zyv120, zyv120, zyv120, zyv120, zyv120, zyv120, zyv15, zyv120, zyv120, zyv120, zyv120, zyv15, zyv15, zyv15, zyv15, zyv120, zyv120, zyv120])
noncomputable def zyr219 : List zC := [zyc248, zyc248, zyc248, zyc240, zyc10, zyc10, zyc10, zyc12, zyc241, zyc8, zyc8, zyc241, zyc8, zyc8, zyc290, zyc250]
noncomputable def zyh224 : zH := (126, [zyr178, zyr179, zyr180, zyr181, zyr182, zyr219, zyr184, zyr185], 0)
noncomputable def zyh225 : zH := (126, [zyr178, zyr179, zyr180, zyr181, zyr182, zyr219, zyr184, zyr185], zym9)
def zyv341 : zAV := .inl ((.ofNat 19, .ofNat 40), none)
noncomputable def zyc291 : zC := .inr (8, [zyv120, zyv15, zyv15, zyv15, zyv120, zyv120, zyv120, zyv120, zyv15, zyv120, zyv15, zyv15, zyv118, zyv17, zyv319, zyv341, zyv166, zyv120, zyv120, zyv120, zyv15, zyv36, zyv127, zyv120, zyv15, zyv120, zyv120, zyv15, zyv15, zyv120, zyv120, zyv120, zyv120, zyv120, zyv120, zyv120, zyv120, zyv120, zyv120, zyv15, zyv120, zyv120, zyv120, zyv120, zyv15, zyv15, zyv15, zyv15, zyv120, zyv120, zyv120])
noncomputable def zyr220 : List zC := [zyc248, zyc248, zyc248, zyc240, zyc10, zyc10, zyc10, zyc12, zyc241, zyc8, zyc8, zyc241, zyc8, zyc8, zyc291, zyc250]
noncomputable def zyh226 : zH := (126, [zyr178, zyr179, zyr180, zyr181, zyr182, zyr220, zyr184, zyr185], zym9)
noncomputable def zyc292 : zC := .inr (8, [zyv120, zyv15, zyv15, zyv15, zyv120, zyv120, zyv120, zyv120, zyv15, zyv120, zyv15, zyv15, zyv118, zyv17, zyv319, zyv341, zyv122, zyv120, zyv120, zyv120, zyv15, zyv36, zyv127, zyv120, zyv15, zyv120, zyv120, zyv15, zyv15, zyv120, zyv120, zyv120, zyv120, zyv120, zyv120, zyv120, zyv120, zyv120, zyv120, zyv15, zyv120, zyv120, zyv120, zyv120, zyv15, zyv15, zyv15, zyv15, zyv120, zyv120, zyv120])
noncomputable def zyr221 : List zC := [zyc248, zyc248, zyc248, zyc240, zyc10, zyc10, zyc10, zyc12, zyc241, zyc8, zyc8, zyc241, zyc8, zyc8, zyc292, zyc250]
noncomputable def zyh227 : zH := (126, [zyr178, zyr179, zyr180, zyr181, zyr182, zyr221, zyr184, zyr185], 0)
noncomputable def zyh228 : zH := (126, [zyr178, zyr179, zyr180, zyr181, zyr182, zyr221, zyr184, zyr185], zym9)
def zyv342 : zAV := .inl ((.ofNat 20, .ofNat 40), none)
noncomputable def zyc293 : zC := .inr (8, [zyv120, zyv15, zyv15, zyv15, zyv120, zyv120, zyv120, zyv120, zyv15, zyv120, zyv15, zyv15, zyv118, zyv17, zyv319, zyv342, zyv166, zyv120, zyv120, zyv120, zyv15, zyv36, zyv127, zyv120, zyv15, zyv120, zyv120, zyv15, zyv15, zyv120, zyv120, zyv120, zyv120, zyv120, zyv120, zyv120, zyv120, zyv120, zyv120, zyv15, zyv120, zyv120, zyv120, zyv120, zyv15, zyv15, zyv15, zyv15, zyv120, zyv120, zyv120])
noncomputable def zyr222 : List zC := [zyc248, zyc248, zyc248, zyc240, zyc10, zyc10, zyc10, zyc12, zyc241, zyc8, zyc8, zyc241, zyc8, zyc8, zyc293, zyc250]
noncomputable def zyh229 : zH := (126, [zyr178, zyr179, zyr180, zyr181, zyr182, zyr222, zyr184, zyr185], zym9)
noncomputable def zyc294 : zC := .inr (8, [zyv120, zyv15, zyv15, zyv15, zyv120, zyv120, zyv120, zyv120, zyv15, zyv120, zyv15, zyv15, zyv118, zyv17, zyv319, zyv342, zyv122, zyv120, zyv120, zyv120, zyv15, zyv36, zyv127, zyv120, zyv15, zyv120, zyv120, zyv15, zyv15, zyv120, zyv120, zyv120, zyv120, zyv120, zyv120, zyv120, zyv120, zyv120, zyv120, zyv15, zyv120, zyv120, zyv120, zyv120, zyv15, zyv15, zyv15, zyv15, zyv120, zyv120, zyv120])
noncomputable def zyr223 : List zC := [zyc248, zyc248, zyc248, zyc240, zyc10, zyc10, zyc10, zyc12, zyc241, zyc8, zyc8, zyc241, zyc8, zyc8, zyc294, zyc250]
noncomputable def zyh230 : zH := (126, [zyr178, zyr179, zyr180, zyr181, zyr182, zyr223, zyr184, zyr185], 0)
noncomputable def zyh231 : zH := (126, [zyr178, zyr179, zyr180, zyr181, zyr182, zyr223, zyr184, zyr185], zym9)
def zyv343 : zAV := .inl ((.ofNat 21, .ofNat 40), none)
noncomputable def zyc295 : zC := .inr (8, [zyv120, zyv15, zyv15, zyv15, zyv120, zyv120, zyv120, zyv120, zyv15, zyv120, zyv15, zyv15, zyv118, zyv17, zyv319, zyv343, zyv166, zyv120, zyv120, zyv120, zyv15, zyv36, zyv127, zyv120, zyv15, zyv120, zyv120, zyv15, zyv15, zyv120, zyv120, zyv120, zyv120, zyv120, zyv120, zyv120, zyv120, zyv120, zyv120, zyv15, zyv120, zyv120, zyv120, zyv120, zyv15, zyv15, zyv15, zyv15, zyv120, zyv120, zyv120])
noncomputable def zyr224 : List zC := [zyc248, zyc248, zyc248, zyc240, zyc10, zyc10, zyc10, zyc12, zyc241, zyc8, zyc8, zyc241, zyc8, zyc8, zyc295, zyc250]
noncomputable def zyh232 : zH := (126, [zyr178, zyr179, zyr180, zyr181, zyr182, zyr224, zyr184, zyr185], zym9)
noncomputable def zyc296 : zC := .inr (8, [zyv120, zyv15, zyv15, zyv15, zyv120, zyv120, zyv120, zyv120, zyv15, zyv120, zyv15, zyv15, zyv118, zyv17, zyv319, zyv343, zyv122, zyv120, zyv120, zyv120, zyv15, zyv36, zyv127, zyv120, zyv15, zyv120, zyv120, zyv15, zyv15, zyv120, zyv120, zyv120, zyv120, zyv120, zyv120, zyv120, zyv120, zyv120, zyv120, zyv15, zyv120, zyv120, zyv120, zyv120, zyv15, zyv15, zyv15, zyv15, zyv120, zyv120, zyv120])
noncomputable def zyr225 : List zC := [zyc248, zyc248, zyc248, zyc240, zyc10, zyc10, zyc10, zyc12, zyc241, zyc8, zyc8, zyc241, zyc8, zyc8, zyc296, zyc250]
noncomputable def zyh233 : zH := (126, [zyr178, zyr179, zyr180, zyr181, zyr182, zyr225, zyr184, zyr185], 0)
noncomputable def zyh234 : zH := (126, [zyr178, zyr179, zyr180, zyr181, zyr182, zyr225, zyr184, zyr185], zym9)
def zyv344 : zAV := .inl ((.ofNat 22, .ofNat 40), none)
noncomputable def zyc297 : zC := .inr (8, [zyv120, zyv15, zyv15, zyv15, zyv120, zyv120, zyv120, zyv120, zyv15, zyv120, zyv15, zyv15, zyv118, zyv17, zyv319, zyv344, zyv166, zyv120, zyv120, zyv120, zyv15, zyv36, zyv127, zyv120, zyv15, zyv120, zyv120, zyv15, zyv15, zyv120, zyv120, zyv120, zyv120, zyv120, zyv120, zyv120, zyv120, zyv120, zyv120, zyv15, zyv120, zyv120, zyv120, zyv120, zyv15, zyv15, zyv15, zyv15, zyv120, zyv120, zyv120])
noncomputable def zyr226 : List zC := [zyc248, zyc248, zyc248, zyc240, zyc10, zyc10, zyc10, zyc12, zyc241, zyc8, zyc8, zyc241, zyc8, zyc8, zyc297, zyc250]
noncomputable def zyh235 : zH := (126, [zyr178, zyr179, zyr180, zyr181, zyr182, zyr226, zyr184, zyr185], zym9)
noncomputable def zyc298 : zC := .inr (8, [zyv120, zyv15, zyv15, zyv15, zyv120, zyv120, zyv120, zyv120, zyv15, zyv120, zyv15, zyv15, zyv118, zyv17, zyv319, zyv344, zyv122, zyv120, zyv120, zyv120, zyv15, zyv36, zyv127, zyv120, zyv15, zyv120, zyv120, zyv15, zyv15, zyv120, zyv120, zyv120, zyv120, zyv120, zyv120, zyv120, zyv120, zyv120, zyv120, zyv15, zyv120, zyv120, zyv120, zyv120, zyv15, zyv15, zyv15, zyv15, zyv120, zyv120, zyv120])
noncomputable def zyr227 : List zC := [zyc248, zyc248, zyc248, zyc240, zyc10, zyc10, zyc10, zyc12, zyc241, zyc8, zyc8, zyc241, zyc8, zyc8, zyc298, zyc250]
noncomputable def zyh236 : zH := (126, [zyr178, zyr179, zyr180, zyr181, zyr182, zyr227, zyr184, zyr185], 0)
noncomputable def zyh237 : zH := (126, [zyr178, zyr179, zyr180, zyr181, zyr182, zyr227, zyr184, zyr185], zym9)
def zyv345 : zAV := .inl ((.ofNat 23, .ofNat 40), none)
noncomputable def zyc299 : zC := .inr (8, [zyv120, zyv15, zyv15, zyv15, zyv120, zyv120, zyv120, zyv120, zyv15, zyv120, zyv15, zyv15, zyv118, zyv17, zyv319, zyv345, zyv166, zyv120, zyv120, zyv120, zyv15, zyv36, zyv127, zyv120, zyv15, zyv120, zyv120, zyv15, zyv15, zyv120, zyv120, zyv120, zyv120, zyv120, zyv120, zyv120, zyv120, zyv120, zyv120, zyv15, zyv120, zyv120, zyv120, zyv120, zyv15, zyv15, zyv15, zyv15, zyv120, zyv120, zyv120])
noncomputable def zyr228 : List zC := [zyc248, zyc248, zyc248, zyc240, zyc10, zyc10, zyc10, zyc12, zyc241, zyc8, zyc8, zyc241, zyc8, zyc8, zyc299, zyc250]
noncomputable def zyh238 : zH := (126, [zyr178, zyr179, zyr180, zyr181, zyr182, zyr228, zyr184, zyr185], zym9)
noncomputable def zyc300 : zC := .inr (8, [zyv120, zyv15, zyv15, zyv15, zyv120, zyv120, zyv120, zyv120, zyv15, zyv120, zyv15, zyv15, zyv118, zyv17, zyv319, zyv345, zyv122, zyv120, zyv120, zyv120, zyv15, zyv36, zyv127, zyv120, zyv15, zyv120, zyv120, zyv15, zyv15, zyv120, zyv120, zyv120, zyv120, zyv120, zyv120, zyv120, zyv120, zyv120, zyv120, zyv15, zyv120, zyv120, zyv120, zyv120, zyv15, zyv15, zyv15, zyv15, zyv120, zyv120, zyv120])
noncomputable def zyr229 : List zC := [zyc248, zyc248, zyc248, zyc240, zyc10, zyc10, zyc10, zyc12, zyc241, zyc8, zyc8, zyc241, zyc8, zyc8, zyc300, zyc250]
noncomputable def zyh239 : zH := (126, [zyr178, zyr179, zyr180, zyr181, zyr182, zyr229, zyr184, zyr185], 0)
noncomputable def zyh240 : zH := (126, [zyr178, zyr179, zyr180, zyr181, zyr182, zyr229, zyr184, zyr185], zym9)
def zyv346 : zAV := .inl ((.ofNat 24, .ofNat 40), none)
noncomputable def zyc301 : zC := .inr (8, [zyv120, zyv15, zyv15, zyv15, zyv120, zyv120, zyv120, zyv120, zyv15, zyv120, zyv15, zyv15, zyv118, zyv17, zyv319, zyv346, zyv166, zyv120, zyv120, zyv120, zyv15, zyv36, zyv127, zyv120, zyv15, zyv120, zyv120, zyv15, zyv15, zyv120, zyv120, zyv120, zyv120, zyv120, zyv120, zyv120, zyv120, zyv120, zyv120, zyv15, zyv120, zyv120, zyv120, zyv120, zyv15, zyv15, zyv15, zyv15, zyv120, zyv120, zyv120])
noncomputable def zyr230 : List zC := [zyc248, zyc248, zyc248, zyc240, zyc10, zyc10, zyc10, zyc12, zyc241, zyc8, zyc8, zyc241, zyc8, zyc8, zyc301, zyc250]
noncomputable def zyh241 : zH := (126, [zyr178, zyr179, zyr180, zyr181, zyr182, zyr230, zyr184, zyr185], zym9)
noncomputable def zyc302 : zC := .inr (8, [zyv120, zyv15, zyv15, zyv15, zyv120, zyv120, zyv120, zyv120, zyv15, zyv120, zyv15, zyv15, zyv118, zyv17, zyv319, zyv346, zyv122, zyv120, zyv120, zyv120, zyv15, zyv36, zyv127, zyv120, zyv15, zyv120, zyv120, zyv15, zyv15, zyv120, zyv120, zyv120, zyv120, zyv120, zyv120, zyv120, zyv120, zyv120, zyv120, zyv15, zyv120, zyv120, zyv120, zyv120, zyv15, zyv15, zyv15, zyv15, zyv120, zyv120, zyv120])
noncomputable def zyr231 : List zC := [zyc248, zyc248, zyc248, zyc240, zyc10, zyc10, zyc10, zyc12, zyc241, zyc8, zyc8, zyc241, zyc8, zyc8, zyc302, zyc250]
noncomputable def zyh242 : zH := (126, [zyr178, zyr179, zyr180, zyr181, zyr182, zyr231, zyr184, zyr185], 0)
noncomputable def zyh243 : zH := (126, [zyr178, zyr179, zyr180, zyr181, zyr182, zyr231, zyr184, zyr185], zym9)
def zyv347 : zAV := .inl ((.ofNat 25, .ofNat 40), none)
noncomputable def zyc303 : zC := .inr (8, [zyv120, zyv15, zyv15, zyv15, zyv120, zyv120, zyv120, zyv120, zyv15, zyv120, zyv15, zyv15, zyv118, zyv17, zyv319, zyv347, zyv166, zyv120, zyv120, zyv120, zyv15, zyv36, zyv127, zyv120, zyv15, zyv120, zyv120, zyv15, zyv15, zyv120, zyv120, zyv120, zyv120, zyv120, zyv120, zyv120, zyv120, zyv120, zyv120, zyv15, zyv120, zyv120, zyv120, zyv120, zyv15, zyv15, zyv15, zyv15, zyv120, zyv120, zyv120])
noncomputable def zyr232 : List zC := [zyc248, zyc248, zyc248, zyc240, zyc10, zyc10, zyc10, zyc12, zyc241, zyc8, zyc8, zyc241, zyc8, zyc8, zyc303, zyc250]
noncomputable def zyh244 : zH := (126, [zyr178, zyr179, zyr180, zyr181, zyr182, zyr232, zyr184, zyr185], zym9)
noncomputable def zyc304 : zC := .inr (8, [zyv120, zyv15, zyv15, zyv15, zyv120, zyv120, zyv120, zyv120, zyv15, zyv120, zyv15, zyv15, zyv118, zyv17, zyv319, zyv347, zyv122, zyv120, zyv120, zyv120, zyv15, zyv36, zyv127, zyv120, zyv15, zyv120, zyv120, zyv15, zyv15, zyv120, zyv120, zyv120, zyv120, zyv120, zyv120, zyv120, zyv120, zyv120, zyv120, zyv15, zyv120, zyv120, zyv120, zyv120, zyv15, zyv15, zyv15, zyv15, zyv120, zyv120, zyv120])
noncomputable def zyr233 : List zC := [zyc248, zyc248, zyc248, zyc240, zyc10, zyc10, zyc10, zyc12, zyc241, zyc8, zyc8, zyc241, zyc8, zyc8, zyc304, zyc250]
noncomputable def zyh245 : zH := (126, [zyr178, zyr179, zyr180, zyr181, zyr182, zyr233, zyr184, zyr185], 0)
noncomputable def zyh246 : zH := (126, [zyr178, zyr179, zyr180, zyr181, zyr182, zyr233, zyr184, zyr185], zym9)
def zyv348 : zAV := .inl ((.ofNat 26, .ofNat 40), none)
noncomputable def zyc305 : zC := .inr (8, [zyv120, zyv15, zyv15, zyv15, zyv120, zyv120, zyv120, zyv120, zyv15, zyv120, zyv15, zyv15, zyv118, zyv17, zyv319, zyv348, zyv166, zyv120, zyv120, zyv120, zyv15, zyv36, zyv127, zyv120, zyv15, zyv120, zyv120, zyv15, zyv15, zyv120, zyv120, zyv120, zyv120, zyv120, zyv120, zyv120, zyv120, zyv120, zyv120, zyv15, zyv120, zyv120, zyv120, zyv120, zyv15, zyv15, zyv15, zyv15, zyv120, zyv120, zyv120])
noncomputable def zyr234 : List zC := [zyc248, zyc248, zyc248, zyc240, zyc10, zyc10, zyc10, zyc12, zyc241, zyc8, zyc8, zyc241, zyc8, zyc8, zyc305, zyc250]
noncomputable def zyh247 : zH := (126, [zyr178, zyr179, zyr180, zyr181, zyr182, zyr234, zyr184, zyr185], zym9)
noncomputable def zyc306 : zC := .inr (8, [zyv120, zyv15, zyv15, zyv15, zyv120, zyv120, zyv120, zyv120, zyv15, zyv120, zyv15, zyv15, zyv118, zyv17, zyv319, zyv348, zyv122, zyv120, zyv120, zyv120, zyv15, zyv36, zyv127, zyv120, zyv15, zyv120, zyv120, zyv15, zyv15, zyv120, zyv120, zyv120, zyv120, zyv120, zyv120, zyv120, zyv120, zyv120, zyv120, zyv15, zyv120, zyv120, zyv120, zyv120, zyv15, zyv15, zyv15, zyv15, zyv120, zyv120, zyv120])
noncomputable def zyr235 : List zC := [zyc248, zyc248, zyc248, zyc240, zyc10, zyc10, zyc10, zyc12, zyc241, zyc8, zyc8, zyc241, zyc8, zyc8, zyc306, zyc250]
noncomputable def zyh248 : zH := (126, [zyr178, zyr179, zyr180, zyr181, zyr182, zyr235, zyr184, zyr185], 0)
noncomputable def zyh249 : zH := (126, [zyr178, zyr179, zyr180, zyr181, zyr182, zyr235, zyr184, zyr185], zym9)
def zyv349 : zAV := .inl ((.ofNat 27, .ofNat 40), none)
noncomputable def zyc307 : zC := .inr (8, [zyv120, zyv15, zyv15, zyv15, zyv120, zyv120, zyv120, zyv120, zyv15, zyv120, zyv15, zyv15, zyv118, zyv17, zyv319, zyv349, zyv166, zyv120, zyv120, zyv120, zyv15, zyv36, zyv127, zyv120, zyv15, zyv120, zyv120, zyv15, zyv15, zyv120, zyv120, zyv120, zyv120, zyv120, zyv120, zyv120, zyv120, zyv120, zyv120, zyv15, zyv120, zyv120, zyv120, zyv120, zyv15, zyv15, zyv15, zyv15, zyv120, zyv120, zyv120])
noncomputable def zyr236 : List zC := [zyc248, zyc248, zyc248, zyc240, zyc10, zyc10, zyc10, zyc12, zyc241, zyc8, zyc8, zyc241, zyc8, zyc8, zyc307, zyc250]
noncomputable def zyh250 : zH := (126, [zyr178, zyr179, zyr180, zyr181, zyr182, zyr236, zyr184, zyr185], zym9)
noncomputable def zyc308 : zC := .inr (8, [zyv120, zyv15, zyv15, zyv15, zyv120, zyv120, zyv120, zyv120, zyv15, zyv120, zyv15, zyv15, zyv118, zyv17, zyv319, zyv349, zyv122, zyv120, zyv120, zyv120, zyv15, zyv36, zyv127, zyv120, zyv15, zyv120, zyv120, zyv15, zyv15, zyv120, zyv120, zyv120, zyv120, zyv120, zyv120, zyv120, zyv120, zyv120, zyv120, zyv15, zyv120, zyv120, zyv120, zyv120, zyv15, zyv15, zyv15, zyv15, zyv120, zyv120, zyv120])
noncomputable def zyr237 : List zC := [zyc248, zyc248, zyc248, zyc240, zyc10, zyc10, zyc10, zyc12, zyc241, zyc8, zyc8, zyc241, zyc8, zyc8, zyc308, zyc250]
noncomputable def zyh251 : zH := (126, [zyr178, zyr179, zyr180, zyr181, zyr182, zyr237, zyr184, zyr185], 0)
noncomputable def zyh252 : zH := (126, [zyr178, zyr179, zyr180, zyr181, zyr182, zyr237, zyr184, zyr185], zym9)
def zyv350 : zAV := .inl ((.ofNat 28, .ofNat 40), none)
noncomputable def zyc309 : zC := .inr (8, [zyv120, zyv15, zyv15, zyv15, zyv120, zyv120, zyv120, zyv120, zyv15, zyv120, zyv15, zyv15, zyv118, zyv17, zyv319, zyv350, zyv166, zyv120, zyv120, zyv120, zyv15, zyv36, zyv127, zyv120, zyv15, zyv120, zyv120, zyv15, zyv15, zyv120, zyv120, zyv120, zyv120, zyv120, zyv120, zyv120, zyv120, zyv120, zyv120, zyv15, zyv120, zyv120, zyv120, zyv120, zyv15, zyv15, zyv15, zyv15, zyv120, zyv120, zyv120])
noncomputable def zyr238 : List zC := [zyc248, zyc248, zyc248, zyc240, zyc10, zyc10, zyc10, zyc12, zyc241, zyc8, zyc8, zyc241, zyc8, zyc8, zyc309, zyc250]
noncomputable def zyh253 : zH := (126, [zyr178, zyr179, zyr180, zyr181, zyr182, zyr238, zyr184, zyr185], zym9)
noncomputable def zyc310 : zC := .inr (8, [zyv120, zyv15, zyv15, zyv15, zyv120, zyv120, zyv120, zyv120, zyv15, zyv120, zyv15, zyv15, zyv118, zyv17, zyv319, zyv350, zyv122, zyv120, zyv120, zyv120, zyv15, zyv36, zyv127, zyv120, zyv15, zyv120, zyv120, zyv15, zyv15, zyv120, zyv120, zyv120, zyv120, zyv120, zyv120, zyv120, zyv120, zyv120, zyv120, zyv15, zyv120, zyv120, zyv120, zyv120, zyv15, zyv15, zyv15, zyv15, zyv120, zyv120, zyv120])
noncomputable def zyr239 : List zC := [zyc248, zyc248, zyc248, zyc240, zyc10, zyc10, zyc10, zyc12, zyc241, zyc8, zyc8, zyc241, zyc8, zyc8, zyc310, zyc250]
noncomputable def zyh254 : zH := (126, [zyr178, zyr179, zyr180, zyr181, zyr182, zyr239, zyr184, zyr185], 0)
noncomputable def zyh255 : zH := (126, [zyr178, zyr179, zyr180, zyr181, zyr182, zyr239, zyr184, zyr185], zym9)
def zyv351 : zAV := .inl ((.ofNat 29, .ofNat 40), none)
noncomputable def zyc311 : zC := .inr (8, [zyv120, zyv15, zyv15, zyv15, zyv120, zyv120, zyv120, zyv120, zyv15, zyv120, zyv15, zyv15, zyv118, zyv17, zyv319, zyv351, zyv166, zyv120, zyv120, zyv120, zyv15, zyv36, zyv127, zyv120, zyv15, zyv120, zyv120, zyv15, zyv15, zyv120, zyv120, zyv120, zyv120, zyv120, zyv120, zyv120, zyv120, zyv120, zyv120, zyv15, zyv120, zyv120, zyv120, zyv120, zyv15, zyv15, zyv15, zyv15, zyv120, zyv120, zyv120])
noncomputable def zyr240 : List zC := [zyc248, zyc248, zyc248, zyc240, zyc10, zyc10, zyc10, zyc12, zyc241, zyc8, zyc8, zyc241, zyc8, zyc8, zyc311, zyc250]
noncomputable def zyh256 : zH := (126, [zyr178, zyr179, zyr180, zyr181, zyr182, zyr240, zyr184, zyr185], zym9)
noncomputable def zyc312 : zC := .inr (8, [zyv120, zyv15, zyv15, zyv15, zyv120, zyv120, zyv120, zyv120, zyv15, zyv120, zyv15, zyv15, zyv118, zyv17, zyv319, zyv351, zyv122, zyv120, zyv120, zyv120, zyv15, zyv36, zyv127, zyv120, zyv15, zyv120, zyv120, zyv15, zyv15, zyv120, zyv120, zyv120, zyv120, zyv120, zyv120, zyv120, zyv120, zyv120, zyv120, zyv15, zyv120, zyv120, zyv120, zyv120, zyv15, zyv15, zyv15, zyv15, zyv120, zyv120, zyv120])
noncomputable def zyr241 : List zC := [zyc248, zyc248, zyc248, zyc240, zyc10, zyc10, zyc10, zyc12, zyc241, zyc8, zyc8, zyc241, zyc8, zyc8, zyc312, zyc250]
noncomputable def zyh257 : zH := (126, [zyr178, zyr179, zyr180, zyr181, zyr182, zyr241, zyr184, zyr185], 0)
noncomputable def zyh258 : zH := (126, [zyr178, zyr179, zyr180, zyr181, zyr182, zyr241, zyr184, zyr185], zym9)
def zyv352 : zAV := .inl ((.ofNat 30, .ofNat 40), none)
noncomputable def zyc313 : zC := .inr (8, [zyv120, zyv15, zyv15, zyv15, zyv120, zyv120, zyv120, zyv120, zyv15, zyv120, zyv15, zyv15, zyv118, zyv17, zyv319, zyv352, zyv166, zyv120, zyv120, zyv120, zyv15, zyv36, zyv127, zyv120, zyv15, zyv120, zyv120, zyv15, zyv15, zyv120, zyv120, zyv120, zyv120, zyv120, zyv120, zyv120, zyv120, zyv120, zyv120, zyv15, zyv120, zyv120, zyv120, zyv120, zyv15, zyv15, zyv15, zyv15, zyv120, zyv120, zyv120])
noncomputable def zyr242 : List zC := [zyc248, zyc248, zyc248, zyc240, zyc10, zyc10, zyc10, zyc12, zyc241, zyc8, zyc8, zyc241, zyc8, zyc8, zyc313, zyc250]
noncomputable def zyh259 : zH := (126, [zyr178, zyr179, zyr180, zyr181, zyr182, zyr242, zyr184, zyr185], zym9)
noncomputable def zyc314 : zC := .inr (8, [zyv120, zyv15, zyv15, zyv15, zyv120, zyv120, zyv120, zyv120, zyv15, zyv120, zyv15, zyv15, zyv118, zyv17, zyv319, zyv352, zyv122, zyv120, zyv120, zyv120, zyv15, zyv36, zyv127, zyv120, zyv15, zyv120, zyv120, zyv15, zyv15, zyv120, zyv120, zyv120, zyv120, zyv120, zyv120, zyv120, zyv120, zyv120, zyv120, zyv15, zyv120, zyv120, zyv120, zyv120, zyv15, zyv15, zyv15, zyv15, zyv120, zyv120, zyv120])
noncomputable def zyr243 : List zC := [zyc248, zyc248, zyc248, zyc240, zyc10, zyc10, zyc10, zyc12, zyc241, zyc8, zyc8, zyc241, zyc8, zyc8, zyc314, zyc250]
noncomputable def zyh260 : zH := (126, [zyr178, zyr179, zyr180, zyr181, zyr182, zyr243, zyr184, zyr185], 0)
noncomputable def zyh261 : zH := (126, [zyr178, zyr179, zyr180, zyr181, zyr182, zyr243, zyr184, zyr185], zym9)
def zyv353 : zAV := .inl ((.ofNat 31, .ofNat 40), none)
noncomputable def zyc315 : zC := .inr (8, [zyv120, zyv15, zyv15, zyv15, zyv120, zyv120, zyv120, zyv120, zyv15, zyv120, zyv15, zyv15, zyv118, zyv17, zyv319, zyv353, zyv166, zyv120, zyv120, zyv120, zyv15, zyv36, zyv127, zyv120, zyv15, zyv120, zyv120, zyv15, zyv15, zyv120, zyv120, zyv120, zyv120, zyv120, zyv120, zyv120, zyv120, zyv120, zyv120, zyv15, zyv120, zyv120, zyv120, zyv120, zyv15, zyv15, zyv15, zyv15, zyv120, zyv120, zyv120])
noncomputable def zyr244 : List zC := [zyc248, zyc248, zyc248, zyc240, zyc10, zyc10, zyc10, zyc12, zyc241, zyc8, zyc8, zyc241, zyc8, zyc8, zyc315, zyc250]
noncomputable def zyh262 : zH := (126, [zyr178, zyr179, zyr180, zyr181, zyr182, zyr244, zyr184, zyr185], zym9)
noncomputable def zyc316 : zC := .inr (8, [zyv120, zyv15, zyv15, zyv15, zyv120, zyv120, zyv120, zyv120, zyv15, zyv120, zyv15, zyv15, zyv118, zyv17, zyv319, zyv353, zyv122, zyv120, zyv120, zyv120, zyv15, zyv36, zyv127, zyv120, zyv15, zyv120, zyv120, zyv15, zyv15, zyv120, zyv120, zyv120, zyv120, zyv120, zyv120, zyv120, zyv120, zyv120, zyv120, zyv15, zyv120, zyv120, zyv120, zyv120, zyv15, zyv15, zyv15, zyv15, zyv120, zyv120, zyv120])
noncomputable def zyr245 : List zC := [zyc248, zyc248, zyc248, zyc240, zyc10, zyc10, zyc10, zyc12, zyc241, zyc8, zyc8, zyc241, zyc8, zyc8, zyc316, zyc250]
noncomputable def zyh263 : zH := (126, [zyr178, zyr179, zyr180, zyr181, zyr182, zyr245, zyr184, zyr185], 0)
noncomputable def zyh264 : zH := (126, [zyr178, zyr179, zyr180, zyr181, zyr182, zyr245, zyr184, zyr185], zym9)
def zyv354 : zAV := .inl ((.ofNat 32, .ofNat 40), none)
noncomputable def zyc317 : zC := .inr (8, [zyv120, zyv15, zyv15, zyv15, zyv120, zyv120, zyv120, zyv120, zyv15, zyv120, zyv15, zyv15, zyv118, zyv17, zyv319, zyv354, zyv166, zyv120, zyv120, zyv120, zyv15, zyv36, zyv127, zyv120, zyv15, zyv120, zyv120, zyv15, zyv15, zyv120, zyv120, zyv120, zyv120, zyv120, zyv120, zyv120, zyv120, zyv120, zyv120, zyv15, zyv120, zyv120, zyv120, zyv120, zyv15, zyv15, zyv15, zyv15, zyv120, zyv120, zyv120])
noncomputable def zyr246 : List zC := [zyc248, zyc248, zyc248, zyc240, zyc10, zyc10, zyc10, zyc12, zyc241, zyc8, zyc8, zyc241, zyc8, zyc8, zyc317, zyc250]
noncomputable def zyh265 : zH := (126, [zyr178, zyr179, zyr180, zyr181, zyr182, zyr246, zyr184, zyr185], zym9)
noncomputable def zyc318 : zC := .inr (8, [zyv120, zyv15, zyv15, zyv15, zyv120, zyv120, zyv120, zyv120, zyv15, zyv120, zyv15, zyv15, zyv118, zyv17, zyv319, zyv354, zyv122, zyv120, zyv120, zyv120, zyv15, zyv36, zyv127, zyv120, zyv15, zyv120, zyv120, zyv15, zyv15, zyv120, zyv120, zyv120, zyv120, zyv120, zyv120, zyv120, zyv120, zyv120, zyv120, zyv15, zyv120, zyv120, zyv120, zyv120, zyv15, zyv15, zyv15, zyv15, zyv120, zyv120, zyv120])
noncomputable def zyr247 : List zC := [zyc248, zyc248, zyc248, zyc240, zyc10, zyc10, zyc10, zyc12, zyc241, zyc8, zyc8, zyc241, zyc8, zyc8, zyc318, zyc250]
noncomputable def zyh266 : zH := (126, [zyr178, zyr179, zyr180, zyr181, zyr182, zyr247, zyr184, zyr185], 0)
noncomputable def zyh267 : zH := (126, [zyr178, zyr179, zyr180, zyr181, zyr182, zyr247, zyr184, zyr185], zym9)
def zyv355 : zAV := .inl ((.ofNat 33, .ofNat 40), none)
noncomputable def zyc319 : zC := .inr (8, [zyv120, zyv15, zyv15, zyv15, zyv120, zyv120, zyv120, zyv120, zyv15, zyv120, zyv15, zyv15, zyv118, zyv17, zyv319, zyv355, zyv166, zyv120, zyv120, zyv120, zyv15, zyv36, zyv127, zyv120, zyv15, zyv120, zyv120, zyv15, zyv15, zyv120, zyv120, zyv120, zyv120, zyv120, zyv120, zyv120, zyv120, zyv120, zyv120, zyv15, zyv120, zyv120, zyv120, zyv120, zyv15, zyv15, zyv15, zyv15, zyv120, zyv120, zyv120])
noncomputable def zyr248 : List zC := [zyc248, zyc248, zyc248, zyc240, zyc10, zyc10, zyc10, zyc12, zyc241, zyc8, zyc8, zyc241, zyc8, zyc8, zyc319, zyc250]
noncomputable def zyh268 : zH := (126, [zyr178, zyr179, zyr180, zyr181, zyr182, zyr248, zyr184, zyr185], zym9)
noncomputable def zyc320 : zC := .inr (8, [zyv120, zyv15, zyv15, zyv15, zyv120, zyv120, zyv120, zyv120, zyv15, zyv120, zyv15, zyv15, zyv118, zyv17, zyv319, zyv355, zyv122, zyv120, zyv120, zyv120, zyv15, zyv36, zyv127, zyv120, zyv15, zyv120, zyv120, zyv15, zyv15, zyv120, zyv120, zyv120, zyv120, zyv120, zyv120, zyv120, zyv120, zyv120, zyv120, zyv15, zyv120, zyv120, zyv120, zyv120, zyv15, zyv15, zyv15, zyv15, zyv120, zyv120, zyv120])
noncomputable def zyr249 : List zC := [zyc248, zyc248, zyc248, zyc240, zyc10, zyc10, zyc10, zyc12, zyc241, zyc8, zyc8, zyc241, zyc8, zyc8, zyc320, zyc250]
noncomputable def zyh269 : zH := (126, [zyr178, zyr179, zyr180, zyr181, zyr182, zyr249, zyr184, zyr185], 0)
noncomputable def zyh270 : zH := (126, [zyr178, zyr179, zyr180, zyr181, zyr182, zyr249, zyr184, zyr185], zym9)
def zyv356 : zAV := .inl ((.ofNat 34, .ofNat 40), none)
noncomputable def zyc321 : zC := .inr (8, [zyv120, zyv15, zyv15, zyv15, zyv120, zyv120, zyv120, zyv120, zyv15, zyv120, zyv15, zyv15, zyv118, zyv17, zyv319, zyv356, zyv166, zyv120, zyv120, zyv120, zyv15, zyv36, zyv127, zyv120, zyv15, zyv120, zyv120, zyv15, zyv15, zyv120, zyv120, zyv120, zyv120, zyv120, zyv120, zyv120, zyv120, zyv120, zyv120, zyv15, zyv120, zyv120, zyv120, zyv120, zyv15, zyv15, zyv15, zyv15, zyv120, zyv120, zyv120])
noncomputable def zyr250 : List zC := [zyc248, zyc248, zyc248, zyc240, zyc10, zyc10, zyc10, zyc12, zyc241, zyc8, zyc8, zyc241, zyc8, zyc8, zyc321, zyc250]
noncomputable def zyh271 : zH := (126, [zyr178, zyr179, zyr180, zyr181, zyr182, zyr250, zyr184, zyr185], zym9)
noncomputable def zyc322 : zC := .inr (8, [zyv120, zyv15, zyv15, zyv15, zyv120, zyv120, zyv120, zyv120, zyv15, zyv120, zyv15, zyv15, zyv118, zyv17, zyv319, zyv356, zyv122, zyv120, zyv120, zyv120, zyv15, zyv36, zyv127, zyv120, zyv15, zyv120, zyv120, zyv15, zyv15, zyv120, zyv120, zyv120, zyv120, zyv120, zyv120, zyv120, zyv120, zyv120, zyv120, zyv15, zyv120, zyv120, zyv120, zyv120, zyv15, zyv15, zyv15, zyv15, zyv120, zyv120, zyv120])
noncomputable def zyr251 : List zC := [zyc248, zyc248, zyc248, zyc240, zyc10, zyc10, zyc10, zyc12, zyc241, zyc8, zyc8, zyc241, zyc8, zyc8, zyc322, zyc250]
noncomputable def zyh272 : zH := (126, [zyr178, zyr179, zyr180, zyr181, zyr182, zyr251, zyr184, zyr185], 0)
noncomputable def zyh273 : zH := (126, [zyr178, zyr179, zyr180, zyr181, zyr182, zyr251, zyr184, zyr185], zym9)
def zyv357 : zAV := .inl ((.ofNat 35, .ofNat 40), none)
noncomputable def zyc323 : zC := .inr (8, [zyv120, zyv15, zyv15, zyv15, zyv120, zyv120, zyv120, zyv120, zyv15, zyv120, zyv15, zyv15, zyv118, zyv17, zyv319, zyv357, zyv166, zyv120, zyv120, zyv120, zyv15, zyv36, zyv127, zyv120, zyv15, zyv120, zyv120, zyv15, zyv15, zyv120, zyv120, zyv120, zyv120, zyv120, zyv120, zyv120, zyv120, zyv120, zyv120, zyv15, zyv120, zyv120, zyv120, zyv120, zyv15, zyv15, zyv15, zyv15, zyv120, zyv120, zyv120])
noncomputable def zyr252 : List zC := [zyc248, zyc248, zyc248, zyc240, zyc10, zyc10, zyc10, zyc12, zyc241, zyc8, zyc8, zyc241, zyc8, zyc8, zyc323, zyc250]
noncomputable def zyh274 : zH := (126, [zyr178, zyr179, zyr180, zyr181, zyr182, zyr252, zyr184, zyr185], zym9)
noncomputable def zyc324 : zC := .inr (8, [zyv120, zyv15, zyv15, zyv15, zyv120, zyv120, zyv120, zyv120, zyv15, zyv120, zyv15, zyv15, zyv118, zyv17, zyv319, zyv357, zyv122, zyv120, zyv120, zyv120, zyv15, zyv36, zyv127, zyv120, zyv15, zyv120, zyv120, zyv15, zyv15, zyv120, zyv120, zyv120, zyv120, zyv120, zyv120, zyv120, zyv120, zyv120, zyv120, zyv15, zyv120, zyv120, zyv120, zyv120, zyv15, zyv15, zyv15, zyv15, zyv120, zyv120, zyv120])
noncomputable def zyr253 : List zC := [zyc248, zyc248, zyc248, zyc240, zyc10, zyc10, zyc10, zyc12, zyc241, zyc8, zyc8, zyc241, zyc8, zyc8, zyc324, zyc250]
noncomputable def zyh275 : zH := (126, [zyr178, zyr179, zyr180, zyr181, zyr182, zyr253, zyr184, zyr185], 0)
noncomputable def zyh276 : zH := (126, [zyr178, zyr179, zyr180, zyr181, zyr182, zyr253, zyr184, zyr185], zym9)
def zyv358 : zAV := .inl ((.ofNat 36, .ofNat 40), none)
noncomputable def zyc325 : zC := .inr (8, [zyv120, zyv15, zyv15, zyv15, zyv120, zyv120, zyv120, zyv120, zyv15, zyv120, zyv15, zyv15, zyv118, zyv17, zyv319, zyv358, zyv166, zyv120, zyv120, zyv120, zyv15, zyv36, zyv127, zyv120, zyv15, zyv120, zyv120, zyv15, zyv15, zyv120, zyv120, zyv120, zyv120, zyv120, zyv120, zyv120, zyv120, zyv120, zyv120, zyv15, zyv120, zyv120, zyv120, zyv120, zyv15, zyv15, zyv15, zyv15, zyv120, zyv120, zyv120])
noncomputable def zyr254 : List zC := [zyc248, zyc248, zyc248, zyc240, zyc10, zyc10, zyc10, zyc12, zyc241, zyc8, zyc8, zyc241, zyc8, zyc8, zyc325, zyc250]
noncomputable def zyh277 : zH := (126, [zyr178, zyr179, zyr180, zyr181, zyr182, zyr254, zyr184, zyr185], zym9)
noncomputable def zyc326 : zC := .inr (8, [zyv120, zyv15, zyv15, zyv15, zyv120, zyv120, zyv120, zyv120, zyv15, zyv120, zyv15, zyv15, zyv118, zyv17, zyv319, zyv358, zyv122, zyv120, zyv120, zyv120, zyv15, zyv36, zyv127, zyv120, zyv15, zyv120, zyv120, zyv15, zyv15, zyv120, zyv120, zyv120, zyv120, zyv120, zyv120, zyv120, zyv120, zyv120, zyv120, zyv15, zyv120, zyv120, zyv120, zyv120, zyv15, zyv15, zyv15, zyv15, zyv120, zyv120, zyv120])
noncomputable def zyr255 : List zC := [zyc248, zyc248, zyc248, zyc240, zyc10, zyc10, zyc10, zyc12, zyc241, zyc8, zyc8, zyc241, zyc8, zyc8, zyc326, zyc250]
noncomputable def zyh278 : zH := (126, [zyr178, zyr179, zyr180, zyr181, zyr182, zyr255, zyr184, zyr185], 0)
noncomputable def zyh279 : zH := (126, [zyr178, zyr179, zyr180, zyr181, zyr182, zyr255, zyr184, zyr185], zym9)
def zyv359 : zAV := .inl ((.ofNat 37, .ofNat 40), none)
noncomputable def zyc327 : zC := .inr (8, [zyv120, zyv15, zyv15, zyv15, zyv120, zyv120, zyv120, zyv120, zyv15, zyv120, zyv15, zyv15, zyv118, zyv17, zyv319, zyv359, zyv166, zyv120, zyv120, zyv120, zyv15, zyv36, zyv127, zyv120, zyv15, zyv120, zyv120, zyv15, zyv15, zyv120, zyv120, zyv120, zyv120, zyv120, zyv120, zyv120, zyv120, zyv120, zyv120, zyv15, zyv120, zyv120, zyv120, zyv120, zyv15, zyv15, zyv15, zyv15, zyv120, zyv120, zyv120])
noncomputable def zyr256 : List zC := [zyc248, zyc248, zyc248, zyc240, zyc10, zyc10, zyc10, zyc12, zyc241, zyc8, zyc8, zyc241, zyc8, zyc8, zyc327, zyc250]
noncomputable def zyh280 : zH := (126, [zyr178, zyr179, zyr180, zyr181, zyr182, zyr256, zyr184, zyr185], zym9)
noncomputable def zyc328 : zC := .inr (8, [zyv120, zyv15, zyv15, zyv15, zyv120, zyv120, zyv120, zyv120, zyv15, zyv120, zyv15, zyv15, zyv118, zyv17, zyv319, zyv359, zyv122, zyv120, zyv120, zyv120, zyv15, zyv36, zyv127, zyv120, zyv15, zyv120, zyv120, zyv15, zyv15, zyv120, zyv120, zyv120, zyv120, zyv120, zyv120, zyv120, zyv120, zyv120, zyv120, zyv15, zyv120, zyv120, zyv120, zyv120, zyv15, zyv15, zyv15, zyv15, zyv120, zyv120, zyv120])
noncomputable def zyr257 : List zC := [zyc248, zyc248, zyc248, zyc240, zyc10, zyc10, zyc10, zyc12, zyc241, zyc8, zyc8, zyc241, zyc8, zyc8, zyc328, zyc250]
noncomputable def zyh281 : zH := (126, [zyr178, zyr179, zyr180, zyr181, zyr182, zyr257, zyr184, zyr185], 0)
noncomputable def zyh282 : zH := (126, [zyr178, zyr179, zyr180, zyr181, zyr182, zyr257, zyr184, zyr185], zym9)
def zyv360 : zAV := .inl ((.ofNat 38, .ofNat 40), none)
noncomputable def zyc329 : zC := .inr (8, [zyv120, zyv15, zyv15, zyv15, zyv120, zyv120, zyv120, zyv120, zyv15, zyv120, zyv15, zyv15, zyv118, zyv17, zyv319, zyv360, zyv166, zyv120, zyv120, zyv120, zyv15, zyv36, zyv127, zyv120, zyv15, zyv120, zyv120, zyv15, zyv15, zyv120, zyv120, zyv120, zyv120, zyv120, zyv120, zyv120, zyv120, zyv120, zyv120, zyv15, zyv120, zyv120, zyv120, zyv120, zyv15, zyv15, zyv15, zyv15, zyv120, zyv120, zyv120])
noncomputable def zyr258 : List zC := [zyc248, zyc248, zyc248, zyc240, zyc10, zyc10, zyc10, zyc12, zyc241, zyc8, zyc8, zyc241, zyc8, zyc8, zyc329, zyc250]
noncomputable def zyh283 : zH := (126, [zyr178, zyr179, zyr180, zyr181, zyr182, zyr258, zyr184, zyr185], zym9)
noncomputable def zyc330 : zC := .inr (8, [zyv120, zyv15, zyv15, zyv15, zyv120, zyv120, zyv120, zyv120, zyv15, zyv120, zyv15, zyv15, zyv118, zyv17, zyv319, zyv360, zyv122, zyv120, zyv120, zyv120, zyv15, zyv36, zyv127, zyv120, zyv15, zyv120, zyv120, zyv15, zyv15, zyv120, zyv120, zyv120, zyv120, zyv120, zyv120, zyv120, zyv120, zyv120, zyv120, zyv15, zyv120, zyv120, zyv120, zyv120, zyv15, zyv15, zyv15, zyv15, zyv120, zyv120, zyv120])
noncomputable def zyr259 : List zC := [zyc248, zyc248, zyc248, zyc240, zyc10, zyc10, zyc10, zyc12, zyc241, zyc8, zyc8, zyc241, zyc8, zyc8, zyc330, zyc250]
noncomputable def zyh284 : zH := (126, [zyr178, zyr179, zyr180, zyr181, zyr182, zyr259, zyr184, zyr185], 0)
noncomputable def zyh285 : zH := (126, [zyr178, zyr179, zyr180, zyr181, zyr182, zyr259, zyr184, zyr185], zym9)
def zyv361 : zAV := .inl ((.ofNat 39, .ofNat 40), none)
noncomputable def zyc331 : zC := .inr (8, [zyv120, zyv15, zyv15, zyv15, zyv120, zyv120, zyv120, zyv120, zyv15, zyv120, zyv15, zyv15, zyv118, zyv17, zyv319, zyv361, zyv166, zyv120, zyv120, zyv120, zyv15, zyv36, zyv127, zyv120, zyv15, zyv120, zyv120, zyv15, zyv15, zyv120, zyv120, zyv120, zyv120, zyv120, zyv120, zyv120, zyv120, zyv120, zyv120, zyv15, zyv120, zyv120, zyv120, zyv120, zyv15, zyv15, zyv15, zyv15, zyv120, zyv120, zyv120])
noncomputable def zyr260 : List zC := [zyc248, zyc248, zyc248, zyc240, zyc10, zyc10, zyc10, zyc12, zyc241, zyc8, zyc8, zyc241, zyc8, zyc8, zyc331, zyc250]
noncomputable def zyh286 : zH := (126, [zyr178, zyr179, zyr180, zyr181, zyr182, zyr260, zyr184, zyr185], zym9)
noncomputable def zyc332 : zC := .inr (8, [zyv120, zyv15, zyv15, zyv15, zyv120, zyv120, zyv120, zyv120, zyv15, zyv120, zyv15, zyv15, zyv118, zyv17, zyv319, zyv361, zyv122, zyv120, zyv120, zyv120, zyv15, zyv36, zyv127, zyv120, zyv15, zyv120, zyv120, zyv15, zyv15, zyv120, zyv120, zyv120, zyv120, zyv120, zyv120, zyv120, zyv120, zyv120, zyv120, zyv15, zyv120, zyv120, zyv120, zyv120, zyv15, zyv15, zyv15, zyv15, zyv120, zyv120, zyv120])
noncomputable def zyr261 : List zC := [zyc248, zyc248, zyc248, zyc240, zyc10, zyc10, zyc10, zyc12, zyc241, zyc8, zyc8, zyc241, zyc8, zyc8, zyc332, zyc250]
noncomputable def zyh287 : zH := (126, [zyr178, zyr179, zyr180, zyr181, zyr182, zyr261, zyr184, zyr185], 0)
noncomputable def zyh288 : zH := (126, [zyr178, zyr179, zyr180, zyr181, zyr182, zyr261, zyr184, zyr185], zym9)
noncomputable def zyc333 : zC := .inr (8, [zyv120, zyv15, zyv15, zyv15, zyv120, zyv120, zyv120, zyv120, zyv15, zyv120, zyv15, zyv15, zyv118, zyv17, zyv319, zyv319, zyv166, zyv120, zyv120, zyv120, zyv15, zyv36, zyv127, zyv120, zyv15, zyv120, zyv120, zyv15, zyv15, zyv120, zyv120, zyv120, zyv120, zyv120, zyv120, zyv120, zyv120, zyv120, zyv120, zyv15, zyv120, zyv120, zyv120, zyv120, zyv15, zyv15, zyv15, zyv15, zyv120, zyv120, zyv120])
noncomputable def zyr262 : List zC := [zyc248, zyc248, zyc248, zyc240, zyc10, zyc10, zyc10, zyc12, zyc241, zyc8, zyc8, zyc241, zyc8, zyc8, zyc333, zyc250]
noncomputable def zyh289 : zH := (126, [zyr178, zyr179, zyr180, zyr181, zyr182, zyr262, zyr184, zyr185], zym9)
noncomputable def zyc334 : zC := .inr (8, [zyv120, zyv15, zyv15, zyv15, zyv120, zyv120, zyv120, zyv120, zyv15, zyv120, zyv15, zyv15, zyv118, zyv17, zyv319, zyv319, zyv122, zyv120, zyv120, zyv120, zyv15, zyv36, zyv127, zyv120, zyv15, zyv120, zyv120, zyv15, zyv15, zyv120, zyv120, zyv120, zyv120, zyv120, zyv120, zyv120, zyv120, zyv120, zyv120, zyv15, zyv120, zyv120, zyv120, zyv120, zyv15, zyv15, zyv15, zyv15, zyv120, zyv120, zyv120])
noncomputable def zyr263 : List zC := [zyc248, zyc248, zyc248, zyc240, zyc10, zyc10, zyc10, zyc12, zyc241, zyc8, zyc8, zyc241, zyc8, zyc8, zyc334, zyc250]
noncomputable def zyh290 : zH := (126, [zyr178, zyr179, zyr180, zyr181, zyr182, zyr263, zyr184, zyr185], 0)
noncomputable def zyh291 : zH := (126, [zyr178, zyr179, zyr180, zyr181, zyr182, zyr263, zyr184, zyr185], zym9)
def zyv362 : zAV := .inl ((.ofNat 48, .ofNat 48), none)
def zyv363 : zAV := .inl ((.ofNat 10, .ofNat 10), none)
noncomputable def zyc335 : zC := .inr (8, [zyv120, zyv15, zyv15, zyv15, zyv120, zyv120, zyv120, zyv120, zyv15, zyv120, zyv15, zyv15, zyv118, zyv17, zyv319, zyv361, zyv17, zyv120, zyv120, zyv120, zyv15, zyv36, zyv127, zyv120, zyv15, zyv120, zyv120, zyv15, zyv15, zyv120, zyv120, zyv120, zyv120, zyv120, zyv120, zyv120, zyv120, zyv120, zyv120, zyv15, zyv120, zyv120, zyv120, zyv120, zyv15, zyv15, zyv15, zyv15, zyv120, zyv120, zyv120])
noncomputable def zyr264 : List zC := [zyc248, zyc248, zyc248, zyc240, zyc10, zyc10, zyc10, zyc12, zyc241, zyc8, zyc8, zyc241, zyc8, zyc8, zyc335, zyc250]
noncomputable def zyh292 : zH := (126, [zyr178, zyr179, zyr180, zyr181, zyr182, zyr264, zyr184, zyr185], zym9)
noncomputable def zyc336 : zC := .inr (8, [zyv120, zyv15, zyv15, zyv15, zyv120, zyv120, zyv120, zyv120, zyv15, zyv120, zyv15, zyv15, zyv118, zyv17, zyv319, zyv360, zyv17, zyv120, zyv120, zyv120, zyv15, zyv36, zyv127, zyv120, zyv15, zyv120, zyv120, zyv15, zyv15, zyv120, zyv120, zyv120, zyv120, zyv120, zyv120, zyv120, zyv120, zyv120, zyv120, zyv15, zyv120, zyv120, zyv120, zyv120, zyv15, zyv15, zyv15, zyv15, zyv120, zyv120, zyv120])
noncomputable def zyr265 : List zC := [zyc248, zyc248, zyc248, zyc240, zyc10, zyc10, zyc10, zyc12, zyc241, zyc8, zyc8, zyc241, zyc8, zyc8, zyc336, zyc250]
noncomputable def zyh293 : zH := (126, [zyr178, zyr179, zyr180, zyr181, zyr182, zyr265, zyr184, zyr185], zym9)
noncomputable def zyc337 : zC := .inr (8, [zyv120, zyv15, zyv15, zyv15, zyv120, zyv120, zyv120, zyv120, zyv15, zyv120, zyv15, zyv15, zyv118, zyv17, zyv319, zyv359, zyv17, zyv120, zyv120, zyv120, zyv15, zyv36, zyv127, zyv120, zyv15, zyv120, zyv120, zyv15, zyv15, zyv120, zyv120, zyv120, zyv120, zyv120, zyv120, zyv120, zyv120, zyv120, zyv120, zyv15, zyv120, zyv120, zyv120, zyv120, zyv15, zyv15, zyv15, zyv15, zyv120, zyv120, zyv120])
noncomputable def zyr266 : List zC := [zyc248, zyc248, zyc248, zyc240, zyc10, zyc10, zyc10, zyc12, zyc241, zyc8, zyc8, zyc241, zyc8, zyc8, zyc337, zyc250]
noncomputable def zyh294 : zH := (126, [zyr178, zyr179, zyr180, zyr181, zyr182, zyr266, zyr184, zyr185], zym9)
noncomputable def zyc338 : zC := .inr (8, [zyv120, zyv15, zyv15, zyv15, zyv120, zyv120, zyv120, zyv120, zyv15, zyv120, zyv15, zyv15, zyv118, zyv17, zyv319, zyv358, zyv17, zyv120, zyv120, zyv120, zyv15, zyv36, zyv127, zyv120, zyv15, zyv120, zyv120, zyv15, zyv15, zyv120, zyv120, zyv120, zyv120, zyv120, zyv120, zyv120, zyv120, zyv120, zyv120, zyv15, zyv120, zyv120, zyv120, zyv120, zyv15, zyv15, zyv15, zyv15, zyv120, zyv120, zyv120])
noncomputable def zyr267 : List zC := [zyc248, zyc248, zyc248, zyc240, zyc10, zyc10, zyc10, zyc12, zyc241, zyc8, zyc8, zyc241, zyc8, zyc8, zyc338, zyc250]
noncomputable def zyh295 : zH := (126, [zyr178, zyr179, zyr180, zyr181, zyr182, zyr267, zyr184, zyr185], zym9)
noncomputable def zyc339 : zC := .inr (8, [zyv120, zyv15, zyv15, zyv15, zyv120, zyv120, zyv120, zyv120, zyv15, zyv120, zyv15, zyv15, zyv118, zyv17, zyv319, zyv357, zyv17, zyv120, zyv120, zyv120, zyv15, zyv36, zyv127, zyv120, zyv15, zyv120, zyv120, zyv15, zyv15, zyv120, zyv120, zyv120, zyv120, zyv120, zyv120, zyv120, zyv120, zyv120, zyv120, zyv15, zyv120, zyv120, zyv120, zyv120, zyv15, zyv15, zyv15, zyv15, zyv120, zyv120, zyv120])
noncomputable def zyr268 : List zC := [zyc248, zyc248, zyc248, zyc240, zyc10, zyc10, zyc10, zyc12, zyc241, zyc8, zyc8, zyc241, zyc8, zyc8, zyc339, zyc250]
noncomputable def zyh296 : zH := (126, [zyr178, zyr179, zyr180, zyr181, zyr182, zyr268, zyr184, zyr185], zym9)
noncomputable def zyc340 : zC := .inr (8, [zyv120, zyv15, zyv15, zyv15, zyv120, zyv120, zyv120, zyv120, zyv15, zyv120, zyv15, zyv15, zyv118, zyv17, zyv319, zyv356, zyv17, zyv120, zyv120, zyv120, zyv15, zyv36, zyv127, zyv120, zyv15, zyv120, zyv120, zyv15, zyv15, zyv120, zyv120, zyv120, zyv120, zyv120, zyv120, zyv120, zyv120, zyv120, zyv120, zyv15, zyv120, zyv120, zyv120, zyv120, zyv15, zyv15, zyv15, zyv15, zyv120, zyv120, zyv120])
noncomputable def zyr269 : List zC := [zyc248, zyc248, zyc248, zyc240, zyc10, zyc10, zyc10, zyc12, zyc241, zyc8, zyc8, zyc241, zyc8, zyc8, zyc340, zyc250]
noncomputable def zyh297 : zH := (126, [zyr178, zyr179, zyr180, zyr181, zyr182, zyr269, zyr184, zyr185], zym9)
noncomputable def zyc341 : zC := .inr (8, [zyv120, zyv15, zyv15, zyv15, zyv120, zyv120, zyv120, zyv120, zyv15, zyv120, zyv15, zyv15, zyv118, zyv17, zyv319, zyv355, zyv17, zyv120, zyv120, zyv120, zyv15, zyv36, zyv127, zyv120, zyv15, zyv120, zyv120, zyv15, zyv15, zyv120, zyv120, zyv120, zyv120, zyv120, zyv120, zyv120, zyv120, zyv120, zyv120, zyv15, zyv120, zyv120, zyv120, zyv120, zyv15, zyv15, zyv15, zyv15, zyv120, zyv120, zyv120])
noncomputable def zyr270 : List zC := [zyc248, zyc248, zyc248, zyc240, zyc10, zyc10, zyc10, zyc12, zyc241, zyc8, zyc8, zyc241, zyc8, zyc8, zyc341, zyc250]
noncomputable def zyh298 : zH := (126, [zyr178, zyr179, zyr180, zyr181, zyr182, zyr270, zyr184, zyr185], zym9)
noncomputable def zyc342 : zC := .inr (8, [zyv120, zyv15, zyv15, zyv15, zyv120, zyv120, zyv120, zyv120, zyv15, zyv120, zyv15, zyv15, zyv118, zyv17, zyv319, zyv354, zyv17, zyv120, zyv120, zyv120, zyv15, zyv36, zyv127, zyv120, zyv15, zyv120, zyv120, zyv15, zyv15, zyv120, zyv120, zyv120, zyv120, zyv120, zyv120, zyv120, zyv120, zyv120, zyv120, zyv15, zyv120, zyv120, zyv120, zyv120, zyv15, zyv15, zyv15, zyv15, zyv120, zyv120, zyv120])
noncomputable def zyr271 : List zC := [zyc248, zyc248, zyc248, zyc240, zyc10, zyc10, zyc10, zyc12, zyc241, zyc8, zyc8, zyc241, zyc8, zyc8, zyc342, zyc250]
noncomputable def zyh299 : zH := (126, [zyr178, zyr179, zyr180, zyr181, zyr182, zyr271, zyr184, zyr185], zym9)
noncomputable def zyc343 : zC := .inr (8, [zyv120, zyv15, zyv15, zyv15, zyv120, zyv120, zyv120, zyv120, zyv15, zyv120, zyv15, zyv15, zyv118, zyv17, zyv319, zyv353, zyv17, zyv120, zyv120, zyv120, zyv15, zyv36, zyv127, zyv120, zyv15, zyv120, zyv120, zyv15, zyv15, zyv120, zyv120, zyv120, zyv120, zyv120, zyv120, zyv120, zyv120, zyv120, zyv120, zyv15, zyv120, zyv120, zyv120, zyv120, zyv15, zyv15, zyv15, zyv15, zyv120, zyv120, zyv120])
noncomputable def zyr272 : List zC := [zyc248, zyc248, zyc248, zyc240, zyc10, zyc10, zyc10, zyc12, zyc241, zyc8, zyc8, zyc241, zyc8, zyc8, zyc343, zyc250]
noncomputable def zyh300 : zH := (126, [zyr178, zyr179, zyr180, zyr181, zyr182, zyr272, zyr184, zyr185], zym9)
/-! X8_passes -/
noncomputable def zyx9a : List zAV := [zyv320, zyv321]
noncomputable def zyx9q : List (Option zAV × zH) := [(some (.inl ((.ofNat 0, .ofNat 0), none)), zyh174), (some (.inl ((.ofNat 1, .ofNat 1), none)), zyh175)]
noncomputable def zyx9d : zKw := (263, 2, 3, 420, zyx9a, zyh173, zyx9q)
noncomputable def zbzyx9e : Bool := zrunw zprog2 (zovW []) 100000 zcut0 3 420 kX8_passes (zkinL zyx9q) 0 (zargs 0 zyx9a, [], (zyh173.1, zyh173.2.1, 0), 0, 0)
/-! X8_passes -/
noncomputable def zyx10a : List zAV := [zyv320, zyv323]
noncomputable def zyx10q : List (Option zAV × zH) := [(some (.inl ((.ofNat 0, .ofNat 0), none)), zyh177), (some (.inl ((.ofNat 1, .ofNat 1), none)), zyh178)]
noncomputable def zyx10d : zKw := (263, 2, 3, 420, zyx10a, zyh176, zyx10q)
noncomputable def zbzyx10e : Bool := zrunw zprog2 (zovW []) 100000 zcut0 3 420 kX8_passes (zkinL zyx10q) 0 (zargs 0 zyx10a, [], (zyh176.1, zyh176.2.1, 0), 0, 0)
/-! X8_passes -/
noncomputable def zyx11a : List zAV := [zyv320, zyv323]
noncomputable def zyx11q : List (Option zAV × zH) := [(some (.inl ((.ofNat 0, .ofNat 0), none)), zyh180), (some (.inl ((.ofNat 1, .ofNat 1), none)), zyh181)]
noncomputable def zyx11d : zKw := (263, 2, 3, 420, zyx11a, zyh179, zyx11q)
noncomputable def zbzyx11e : Bool := zrunw zprog2 (zovW []) 100000 zcut0 3 420 kX8_passes (zkinL zyx11q) 0 (zargs 0 zyx11a, [], (zyh179.1, zyh179.2.1, 0), 0, 0)
/-! X8_passes -/
noncomputable def zyx12a : List zAV := [zyv320, zyv323]
noncomputable def zyx12q : List (Option zAV × zH) := [(some (.inl ((.ofNat 0, .ofNat 0), none)), zyh183), (some (.inl ((.ofNat 1, .ofNat 1), none)), zyh184)]
noncomputable def zyx12d : zKw := (263, 2, 3, 420, zyx12a, zyh182, zyx12q)
noncomputable def zbzyx12e : Bool := zrunw zprog2 (zovW []) 100000 zcut0 3 420 kX8_passes (zkinL zyx12q) 0 (zargs 0 zyx12a, [], (zyh182.1, zyh182.2.1, 0), 0, 0)
/-! X8_passes -/
noncomputable def zyx13a : List zAV := [zyv320, zyv323]
noncomputable def zyx13q : List (Option zAV × zH) := [(some (.inl ((.ofNat 0, .ofNat 0), none)), zyh186), (some (.inl ((.ofNat 1, .ofNat 1), none)), zyh187)]
noncomputable def zyx13d : zKw := (263, 2, 3, 420, zyx13a, zyh185, zyx13q)
noncomputable def zbzyx13e : Bool := zrunw zprog2 (zovW []) 100000 zcut0 3 420 kX8_passes (zkinL zyx13q) 0 (zargs 0 zyx13a, [], (zyh185.1, zyh185.2.1, 0), 0, 0)
/-! X8_passes -/
noncomputable def zyx14a : List zAV := [zyv320, zyv323]
noncomputable def zyx14q : List (Option zAV × zH) := [(some (.inl ((.ofNat 0, .ofNat 0), none)), zyh189), (some (.inl ((.ofNat 1, .ofNat 1), none)), zyh190)]
noncomputable def zyx14d : zKw := (263, 2, 3, 420, zyx14a, zyh188, zyx14q)
noncomputable def zbzyx14e : Bool := zrunw zprog2 (zovW []) 100000 zcut0 3 420 kX8_passes (zkinL zyx14q) 0 (zargs 0 zyx14a, [], (zyh188.1, zyh188.2.1, 0), 0, 0)
/-! X8_passes -/
noncomputable def zyx15a : List zAV := [zyv320, zyv323]
noncomputable def zyx15q : List (Option zAV × zH) := [(some (.inl ((.ofNat 0, .ofNat 0), none)), zyh192), (some (.inl ((.ofNat 1, .ofNat 1), none)), zyh193)]
noncomputable def zyx15d : zKw := (263, 2, 3, 420, zyx15a, zyh191, zyx15q)
noncomputable def zbzyx15e : Bool := zrunw zprog2 (zovW []) 100000 zcut0 3 420 kX8_passes (zkinL zyx15q) 0 (zargs 0 zyx15a, [], (zyh191.1, zyh191.2.1, 0), 0, 0)
/-! X8_passes -/
noncomputable def zyx16a : List zAV := [zyv320, zyv323]
noncomputable def zyx16q : List (Option zAV × zH) := [(some (.inl ((.ofNat 0, .ofNat 0), none)), zyh195), (some (.inl ((.ofNat 1, .ofNat 1), none)), zyh196)]
noncomputable def zyx16d : zKw := (263, 2, 3, 420, zyx16a, zyh194, zyx16q)
noncomputable def zbzyx16e : Bool := zrunw zprog2 (zovW []) 100000 zcut0 3 420 kX8_passes (zkinL zyx16q) 0 (zargs 0 zyx16a, [], (zyh194.1, zyh194.2.1, 0), 0, 0)
/-! X8_passes -/
noncomputable def zyx17a : List zAV := [zyv320, zyv323]
noncomputable def zyx17q : List (Option zAV × zH) := [(some (.inl ((.ofNat 0, .ofNat 0), none)), zyh198), (some (.inl ((.ofNat 1, .ofNat 1), none)), zyh199)]
noncomputable def zyx17d : zKw := (263, 2, 3, 420, zyx17a, zyh197, zyx17q)
noncomputable def zbzyx17e : Bool := zrunw zprog2 (zovW []) 100000 zcut0 3 420 kX8_passes (zkinL zyx17q) 0 (zargs 0 zyx17a, [], (zyh197.1, zyh197.2.1, 0), 0, 0)
/-! X8_passes -/
noncomputable def zyx18a : List zAV := [zyv320, zyv323]
noncomputable def zyx18q : List (Option zAV × zH) := [(some (.inl ((.ofNat 0, .ofNat 0), none)), zyh201), (some (.inl ((.ofNat 1, .ofNat 1), none)), zyh202)]
noncomputable def zyx18d : zKw := (263, 2, 3, 420, zyx18a, zyh200, zyx18q)
noncomputable def zbzyx18e : Bool := zrunw zprog2 (zovW []) 100000 zcut0 3 420 kX8_passes (zkinL zyx18q) 0 (zargs 0 zyx18a, [], (zyh200.1, zyh200.2.1, 0), 0, 0)
/-! X8_passes -/
noncomputable def zyx19a : List zAV := [zyv320, zyv323]
noncomputable def zyx19q : List (Option zAV × zH) := [(some (.inl ((.ofNat 0, .ofNat 0), none)), zyh204), (some (.inl ((.ofNat 1, .ofNat 1), none)), zyh205)]
noncomputable def zyx19d : zKw := (263, 2, 3, 420, zyx19a, zyh203, zyx19q)
noncomputable def zbzyx19e : Bool := zrunw zprog2 (zovW []) 100000 zcut0 3 420 kX8_passes (zkinL zyx19q) 0 (zargs 0 zyx19a, [], (zyh203.1, zyh203.2.1, 0), 0, 0)
/-! X8_passes -/
noncomputable def zyx20a : List zAV := [zyv320, zyv323]
noncomputable def zyx20q : List (Option zAV × zH) := [(some (.inl ((.ofNat 0, .ofNat 0), none)), zyh207), (some (.inl ((.ofNat 1, .ofNat 1), none)), zyh208)]
noncomputable def zyx20d : zKw := (263, 2, 3, 420, zyx20a, zyh206, zyx20q)
noncomputable def zbzyx20e : Bool := zrunw zprog2 (zovW []) 100000 zcut0 3 420 kX8_passes (zkinL zyx20q) 0 (zargs 0 zyx20a, [], (zyh206.1, zyh206.2.1, 0), 0, 0)
/-! X8_passes -/
noncomputable def zyx21a : List zAV := [zyv320, zyv323]
noncomputable def zyx21q : List (Option zAV × zH) := [(some (.inl ((.ofNat 0, .ofNat 0), none)), zyh210), (some (.inl ((.ofNat 1, .ofNat 1), none)), zyh211)]
noncomputable def zyx21d : zKw := (263, 2, 3, 420, zyx21a, zyh209, zyx21q)
noncomputable def zbzyx21e : Bool := zrunw zprog2 (zovW []) 100000 zcut0 3 420 kX8_passes (zkinL zyx21q) 0 (zargs 0 zyx21a, [], (zyh209.1, zyh209.2.1, 0), 0, 0)
/-! X8_passes -/
noncomputable def zyx22a : List zAV := [zyv320, zyv323]
noncomputable def zyx22q : List (Option zAV × zH) := [(some (.inl ((.ofNat 0, .ofNat 0), none)), zyh213), (some (.inl ((.ofNat 1, .ofNat 1), none)), zyh214)]
noncomputable def zyx22d : zKw := (263, 2, 3, 420, zyx22a, zyh212, zyx22q)
noncomputable def zbzyx22e : Bool := zrunw zprog2 (zovW []) 100000 zcut0 3 420 kX8_passes (zkinL zyx22q) 0 (zargs 0 zyx22a, [], (zyh212.1, zyh212.2.1, 0), 0, 0)
/-! X8_passes -/
noncomputable def zyx23a : List zAV := [zyv320, zyv323]
noncomputable def zyx23q : List (Option zAV × zH) := [(some (.inl ((.ofNat 0, .ofNat 0), none)), zyh216), (some (.inl ((.ofNat 1, .ofNat 1), none)), zyh217)]
noncomputable def zyx23d : zKw := (263, 2, 3, 420, zyx23a, zyh215, zyx23q)
noncomputable def zbzyx23e : Bool := zrunw zprog2 (zovW []) 100000 zcut0 3 420 kX8_passes (zkinL zyx23q) 0 (zargs 0 zyx23a, [], (zyh215.1, zyh215.2.1, 0), 0, 0)
/-! X8_passes -/
noncomputable def zyx24a : List zAV := [zyv320, zyv323]
noncomputable def zyx24q : List (Option zAV × zH) := [(some (.inl ((.ofNat 0, .ofNat 0), none)), zyh219), (some (.inl ((.ofNat 1, .ofNat 1), none)), zyh220)]
noncomputable def zyx24d : zKw := (263, 2, 3, 420, zyx24a, zyh218, zyx24q)
noncomputable def zbzyx24e : Bool := zrunw zprog2 (zovW []) 100000 zcut0 3 420 kX8_passes (zkinL zyx24q) 0 (zargs 0 zyx24a, [], (zyh218.1, zyh218.2.1, 0), 0, 0)
/-! X8_passes -/
noncomputable def zyx25a : List zAV := [zyv320, zyv323]
noncomputable def zyx25q : List (Option zAV × zH) := [(some (.inl ((.ofNat 0, .ofNat 0), none)), zyh222), (some (.inl ((.ofNat 1, .ofNat 1), none)), zyh223)]
noncomputable def zyx25d : zKw := (263, 2, 3, 420, zyx25a, zyh221, zyx25q)
noncomputable def zbzyx25e : Bool := zrunw zprog2 (zovW []) 100000 zcut0 3 420 kX8_passes (zkinL zyx25q) 0 (zargs 0 zyx25a, [], (zyh221.1, zyh221.2.1, 0), 0, 0)
/-! X8_passes -/
noncomputable def zyx26a : List zAV := [zyv320, zyv323]
noncomputable def zyx26q : List (Option zAV × zH) := [(some (.inl ((.ofNat 0, .ofNat 0), none)), zyh225), (some (.inl ((.ofNat 1, .ofNat 1), none)), zyh226)]
noncomputable def zyx26d : zKw := (263, 2, 3, 420, zyx26a, zyh224, zyx26q)
noncomputable def zbzyx26e : Bool := zrunw zprog2 (zovW []) 100000 zcut0 3 420 kX8_passes (zkinL zyx26q) 0 (zargs 0 zyx26a, [], (zyh224.1, zyh224.2.1, 0), 0, 0)
/-! X8_passes -/
noncomputable def zyx27a : List zAV := [zyv320, zyv323]
noncomputable def zyx27q : List (Option zAV × zH) := [(some (.inl ((.ofNat 0, .ofNat 0), none)), zyh228), (some (.inl ((.ofNat 1, .ofNat 1), none)), zyh229)]
noncomputable def zyx27d : zKw := (263, 2, 3, 420, zyx27a, zyh227, zyx27q)
noncomputable def zbzyx27e : Bool := zrunw zprog2 (zovW []) 100000 zcut0 3 420 kX8_passes (zkinL zyx27q) 0 (zargs 0 zyx27a, [], (zyh227.1, zyh227.2.1, 0), 0, 0)
/-! X8_passes -/
noncomputable def zyx28a : List zAV := [zyv320, zyv323]
noncomputable def zyx28q : List (Option zAV × zH) := [(some (.inl ((.ofNat 0, .ofNat 0), none)), zyh231), (some (.inl ((.ofNat 1, .ofNat 1), none)), zyh232)]
noncomputable def zyx28d : zKw := (263, 2, 3, 420, zyx28a, zyh230, zyx28q)
noncomputable def zbzyx28e : Bool := zrunw zprog2 (zovW []) 100000 zcut0 3 420 kX8_passes (zkinL zyx28q) 0 (zargs 0 zyx28a, [], (zyh230.1, zyh230.2.1, 0), 0, 0)
/-! X8_passes -/
noncomputable def zyx29a : List zAV := [zyv320, zyv323]
noncomputable def zyx29q : List (Option zAV × zH) := [(some (.inl ((.ofNat 0, .ofNat 0), none)), zyh234), (some (.inl ((.ofNat 1, .ofNat 1), none)), zyh235)]
noncomputable def zyx29d : zKw := (263, 2, 3, 420, zyx29a, zyh233, zyx29q)
noncomputable def zbzyx29e : Bool := zrunw zprog2 (zovW []) 100000 zcut0 3 420 kX8_passes (zkinL zyx29q) 0 (zargs 0 zyx29a, [], (zyh233.1, zyh233.2.1, 0), 0, 0)
/-! X8_passes -/
noncomputable def zyx30a : List zAV := [zyv320, zyv323]
noncomputable def zyx30q : List (Option zAV × zH) := [(some (.inl ((.ofNat 0, .ofNat 0), none)), zyh237), (some (.inl ((.ofNat 1, .ofNat 1), none)), zyh238)]
noncomputable def zyx30d : zKw := (263, 2, 3, 420, zyx30a, zyh236, zyx30q)
noncomputable def zbzyx30e : Bool := zrunw zprog2 (zovW []) 100000 zcut0 3 420 kX8_passes (zkinL zyx30q) 0 (zargs 0 zyx30a, [], (zyh236.1, zyh236.2.1, 0), 0, 0)
/-! X8_passes -/
noncomputable def zyx31a : List zAV := [zyv320, zyv323]
noncomputable def zyx31q : List (Option zAV × zH) := [(some (.inl ((.ofNat 0, .ofNat 0), none)), zyh240), (some (.inl ((.ofNat 1, .ofNat 1), none)), zyh241)]
noncomputable def zyx31d : zKw := (263, 2, 3, 420, zyx31a, zyh239, zyx31q)
noncomputable def zbzyx31e : Bool := zrunw zprog2 (zovW []) 100000 zcut0 3 420 kX8_passes (zkinL zyx31q) 0 (zargs 0 zyx31a, [], (zyh239.1, zyh239.2.1, 0), 0, 0)
/-! X8_passes -/
noncomputable def zyx32a : List zAV := [zyv320, zyv323]
noncomputable def zyx32q : List (Option zAV × zH) := [(some (.inl ((.ofNat 0, .ofNat 0), none)), zyh243), (some (.inl ((.ofNat 1, .ofNat 1), none)), zyh244)]
noncomputable def zyx32d : zKw := (263, 2, 3, 420, zyx32a, zyh242, zyx32q)
noncomputable def zbzyx32e : Bool := zrunw zprog2 (zovW []) 100000 zcut0 3 420 kX8_passes (zkinL zyx32q) 0 (zargs 0 zyx32a, [], (zyh242.1, zyh242.2.1, 0), 0, 0)
/-! X8_passes -/
noncomputable def zyx33a : List zAV := [zyv320, zyv323]
noncomputable def zyx33q : List (Option zAV × zH) := [(some (.inl ((.ofNat 0, .ofNat 0), none)), zyh246), (some (.inl ((.ofNat 1, .ofNat 1), none)), zyh247)]
noncomputable def zyx33d : zKw := (263, 2, 3, 420, zyx33a, zyh245, zyx33q)
noncomputable def zbzyx33e : Bool := zrunw zprog2 (zovW []) 100000 zcut0 3 420 kX8_passes (zkinL zyx33q) 0 (zargs 0 zyx33a, [], (zyh245.1, zyh245.2.1, 0), 0, 0)
/-! X8_passes -/
noncomputable def zyx34a : List zAV := [zyv320, zyv323]
noncomputable def zyx34q : List (Option zAV × zH) := [(some (.inl ((.ofNat 0, .ofNat 0), none)), zyh249), (some (.inl ((.ofNat 1, .ofNat 1), none)), zyh250)]
noncomputable def zyx34d : zKw := (263, 2, 3, 420, zyx34a, zyh248, zyx34q)
noncomputable def zbzyx34e : Bool := zrunw zprog2 (zovW []) 100000 zcut0 3 420 kX8_passes (zkinL zyx34q) 0 (zargs 0 zyx34a, [], (zyh248.1, zyh248.2.1, 0), 0, 0)
/-! X8_passes -/
noncomputable def zyx35a : List zAV := [zyv320, zyv323]
noncomputable def zyx35q : List (Option zAV × zH) := [(some (.inl ((.ofNat 0, .ofNat 0), none)), zyh252), (some (.inl ((.ofNat 1, .ofNat 1), none)), zyh253)]
noncomputable def zyx35d : zKw := (263, 2, 3, 420, zyx35a, zyh251, zyx35q)
noncomputable def zbzyx35e : Bool := zrunw zprog2 (zovW []) 100000 zcut0 3 420 kX8_passes (zkinL zyx35q) 0 (zargs 0 zyx35a, [], (zyh251.1, zyh251.2.1, 0), 0, 0)
/-! X8_passes -/
noncomputable def zyx36a : List zAV := [zyv320, zyv323]
noncomputable def zyx36q : List (Option zAV × zH) := [(some (.inl ((.ofNat 0, .ofNat 0), none)), zyh255), (some (.inl ((.ofNat 1, .ofNat 1), none)), zyh256)]
noncomputable def zyx36d : zKw := (263, 2, 3, 420, zyx36a, zyh254, zyx36q)
noncomputable def zbzyx36e : Bool := zrunw zprog2 (zovW []) 100000 zcut0 3 420 kX8_passes (zkinL zyx36q) 0 (zargs 0 zyx36a, [], (zyh254.1, zyh254.2.1, 0), 0, 0)
/-! X8_passes -/
noncomputable def zyx37a : List zAV := [zyv320, zyv323]
noncomputable def zyx37q : List (Option zAV × zH) := [(some (.inl ((.ofNat 0, .ofNat 0), none)), zyh258), (some (.inl ((.ofNat 1, .ofNat 1), none)), zyh259)]
noncomputable def zyx37d : zKw := (263, 2, 3, 420, zyx37a, zyh257, zyx37q)
noncomputable def zbzyx37e : Bool := zrunw zprog2 (zovW []) 100000 zcut0 3 420 kX8_passes (zkinL zyx37q) 0 (zargs 0 zyx37a, [], (zyh257.1, zyh257.2.1, 0), 0, 0)
/-! X8_passes -/
noncomputable def zyx38a : List zAV := [zyv320, zyv323]
noncomputable def zyx38q : List (Option zAV × zH) := [(some (.inl ((.ofNat 0, .ofNat 0), none)), zyh261), (some (.inl ((.ofNat 1, .ofNat 1), none)), zyh262)]
noncomputable def zyx38d : zKw := (263, 2, 3, 420, zyx38a, zyh260, zyx38q)
noncomputable def zbzyx38e : Bool := zrunw zprog2 (zovW []) 100000 zcut0 3 420 kX8_passes (zkinL zyx38q) 0 (zargs 0 zyx38a, [], (zyh260.1, zyh260.2.1, 0), 0, 0)
/-! X8_passes -/
noncomputable def zyx39a : List zAV := [zyv320, zyv323]
noncomputable def zyx39q : List (Option zAV × zH) := [(some (.inl ((.ofNat 0, .ofNat 0), none)), zyh264), (some (.inl ((.ofNat 1, .ofNat 1), none)), zyh265)]
noncomputable def zyx39d : zKw := (263, 2, 3, 420, zyx39a, zyh263, zyx39q)
noncomputable def zbzyx39e : Bool := zrunw zprog2 (zovW []) 100000 zcut0 3 420 kX8_passes (zkinL zyx39q) 0 (zargs 0 zyx39a, [], (zyh263.1, zyh263.2.1, 0), 0, 0)
/-! X8_passes -/
noncomputable def zyx40a : List zAV := [zyv320, zyv323]
noncomputable def zyx40q : List (Option zAV × zH) := [(some (.inl ((.ofNat 0, .ofNat 0), none)), zyh267), (some (.inl ((.ofNat 1, .ofNat 1), none)), zyh268)]
noncomputable def zyx40d : zKw := (263, 2, 3, 420, zyx40a, zyh266, zyx40q)
noncomputable def zbzyx40e : Bool := zrunw zprog2 (zovW []) 100000 zcut0 3 420 kX8_passes (zkinL zyx40q) 0 (zargs 0 zyx40a, [], (zyh266.1, zyh266.2.1, 0), 0, 0)
/-! X8_passes -/
noncomputable def zyx41a : List zAV := [zyv320, zyv323]
noncomputable def zyx41q : List (Option zAV × zH) := [(some (.inl ((.ofNat 0, .ofNat 0), none)), zyh270), (some (.inl ((.ofNat 1, .ofNat 1), none)), zyh271)]
noncomputable def zyx41d : zKw := (263, 2, 3, 420, zyx41a, zyh269, zyx41q)
noncomputable def zbzyx41e : Bool := zrunw zprog2 (zovW []) 100000 zcut0 3 420 kX8_passes (zkinL zyx41q) 0 (zargs 0 zyx41a, [], (zyh269.1, zyh269.2.1, 0), 0, 0)
/-! X8_passes -/
noncomputable def zyx42a : List zAV := [zyv320, zyv323]
noncomputable def zyx42q : List (Option zAV × zH) := [(some (.inl ((.ofNat 0, .ofNat 0), none)), zyh273), (some (.inl ((.ofNat 1, .ofNat 1), none)), zyh274)]
noncomputable def zyx42d : zKw := (263, 2, 3, 420, zyx42a, zyh272, zyx42q)
noncomputable def zbzyx42e : Bool := zrunw zprog2 (zovW []) 100000 zcut0 3 420 kX8_passes (zkinL zyx42q) 0 (zargs 0 zyx42a, [], (zyh272.1, zyh272.2.1, 0), 0, 0)
/-! X8_passes -/
noncomputable def zyx43a : List zAV := [zyv320, zyv323]
noncomputable def zyx43q : List (Option zAV × zH) := [(some (.inl ((.ofNat 0, .ofNat 0), none)), zyh276), (some (.inl ((.ofNat 1, .ofNat 1), none)), zyh277)]
noncomputable def zyx43d : zKw := (263, 2, 3, 420, zyx43a, zyh275, zyx43q)
noncomputable def zbzyx43e : Bool := zrunw zprog2 (zovW []) 100000 zcut0 3 420 kX8_passes (zkinL zyx43q) 0 (zargs 0 zyx43a, [], (zyh275.1, zyh275.2.1, 0), 0, 0)
/-! X8_passes -/
noncomputable def zyx44a : List zAV := [zyv320, zyv323]
noncomputable def zyx44q : List (Option zAV × zH) := [(some (.inl ((.ofNat 0, .ofNat 0), none)), zyh279), (some (.inl ((.ofNat 1, .ofNat 1), none)), zyh280)]
noncomputable def zyx44d : zKw := (263, 2, 3, 420, zyx44a, zyh278, zyx44q)
noncomputable def zbzyx44e : Bool := zrunw zprog2 (zovW []) 100000 zcut0 3 420 kX8_passes (zkinL zyx44q) 0 (zargs 0 zyx44a, [], (zyh278.1, zyh278.2.1, 0), 0, 0)
/-! X8_passes -/
noncomputable def zyx45a : List zAV := [zyv320, zyv323]
noncomputable def zyx45q : List (Option zAV × zH) := [(some (.inl ((.ofNat 0, .ofNat 0), none)), zyh282), (some (.inl ((.ofNat 1, .ofNat 1), none)), zyh283)]
noncomputable def zyx45d : zKw := (263, 2, 3, 420, zyx45a, zyh281, zyx45q)
noncomputable def zbzyx45e : Bool := zrunw zprog2 (zovW []) 100000 zcut0 3 420 kX8_passes (zkinL zyx45q) 0 (zargs 0 zyx45a, [], (zyh281.1, zyh281.2.1, 0), 0, 0)
/-! X8_passes -/
noncomputable def zyx46a : List zAV := [zyv320, zyv323]
noncomputable def zyx46q : List (Option zAV × zH) := [(some (.inl ((.ofNat 0, .ofNat 0), none)), zyh285), (some (.inl ((.ofNat 1, .ofNat 1), none)), zyh286)]
noncomputable def zyx46d : zKw := (263, 2, 3, 420, zyx46a, zyh284, zyx46q)
noncomputable def zbzyx46e : Bool := zrunw zprog2 (zovW []) 100000 zcut0 3 420 kX8_passes (zkinL zyx46q) 0 (zargs 0 zyx46a, [], (zyh284.1, zyh284.2.1, 0), 0, 0)
/-! X8_passes -/
noncomputable def zyx47a : List zAV := [zyv320, zyv323]
noncomputable def zyx47q : List (Option zAV × zH) := [(some (.inl ((.ofNat 0, .ofNat 0), none)), zyh288), (some (.inl ((.ofNat 1, .ofNat 1), none)), zyh289)]
noncomputable def zyx47d : zKw := (263, 2, 3, 420, zyx47a, zyh287, zyx47q)
noncomputable def zbzyx47e : Bool := zrunw zprog2 (zovW []) 100000 zcut0 3 420 kX8_passes (zkinL zyx47q) 0 (zargs 0 zyx47a, [], (zyh287.1, zyh287.2.1, 0), 0, 0)
/-! X8_passes -/
noncomputable def zyx48a : List zAV := [zyv320, zyv323]
noncomputable def zyx48q : List (Option zAV × zH) := [(some (.inl ((.ofNat 0, .ofNat 0), none)), zyh291)]
noncomputable def zyx48d : zKw := (263, 2, 3, 420, zyx48a, zyh290, zyx48q)
noncomputable def zbzyx48e : Bool := zrunw zprog2 (zovW []) 100000 zcut0 3 420 kX8_passes (zkinL zyx48q) 0 (zargs 0 zyx48a, [], (zyh290.1, zyh290.2.1, 0), 0, 0)
/-! X8_thing -/
noncomputable def zyx49a : List zAV := [.inr (.inr (.inl 94)), .inl ((.ofNat 0, .ofNat 4), none)]
def zyx49r : Option zAV := some (.inl ((.negSucc 2147483647, .ofNat 2147483647), none))
noncomputable def zyx49p : List zPw := []
noncomputable def zyx49d : zKw := (292, 4, 4, 540, zyx49a, zyh290, [(zyx49r, zyh291)])
noncomputable def zbzyx49e : Bool := zrunw zprog2 (zovW [zyx48d]) 100000 (zcutW [] none ((zyx49r, zyh291), 4, 540) zyx49p) 4 540 k2X8_thing (zkin zyx49r zyh291) 0 (zargs 0 zyx49a, [], (zyh290.1, zyh290.2.1, 0), 0, 0)
/-! X8_product ((('r', 99), 40, 40),) -/
noncomputable def zyx50a : List zAV := [.inr (.inr (.inl 94)), .inl ((.ofNat 0, .ofNat 4), none)]
def zyx50r : Option zAV := some (.inl ((.negSucc 2147483647, .ofNat 2147483647), none))
noncomputable def zyx50q : zPw := ((6, ([(0, .inr (.inr (.inl 94))), (1, .inl ((.ofNat 0, .ofNat 4), some (1, .ofNat 0))), (2, .inl ((.negSucc 2147483647, .ofNat 2147483647), some (2, .ofNat 0)))], [], zyh291, 0, 0), [], 0), (zyx50r, zyh291), 5, 660)
noncomputable def zbzyx50c : Bool := zchkX [(94, 15)] zprog2 (zovW [zyx49d]) 100000 k2X8_product [] [zyx50q] [zyx50q]
noncomputable def zyx50d : zKw := (265, 5, 5, 660, zyx50a, zyh290, [(zyx50r, zyh291)])
noncomputable def zbzyx50e : Bool := zrunw zprog2 (zovW [zyx49d]) 100000 (zcutW [(94, 15)] none ((zyx50r, zyh291), 5, 660) [zyx50q]) 5 660 k2X8_product (zkin zyx50r zyh291) 0 (zargs 0 zyx50a, [], (zyh290.1, zyh290.2.1, 0), 0, 0)
/-! X8_sum ((('r', 99), 40, 40),) -/
noncomputable def zyx51a : List zAV := [.inr (.inr (.inl 94)), .inl ((.ofNat 1, .ofNat 4), none)]
def zyx51r : Option zAV := some (.inl ((.negSucc 2147483647, .ofNat 2147483647), none))
noncomputable def zyx51q : zPw := ((6, ([(0, .inr (.inr (.inl 94))), (1, .inl ((.ofNat 0, .ofNat 4), some (1, .ofNat 0))), (2, .inl ((.negSucc 2147483647, .ofNat 2147483647), some (2, .ofNat 0)))], [], zyh291, 0, 0), [], 0), (zyx51r, zyh291), 6, 780)
noncomputable def zbzyx51c : Bool := zchkX [(94, 15)] zprog2 (zovW [zyx50d]) 100000 kX8_sum [] [zyx51q] [zyx51q]
noncomputable def zyx51d : zKw := (284, 5, 6, 780, zyx51a, zyh290, [(zyx51r, zyh291)])
noncomputable def zbzyx51e : Bool := zrunw zprog2 (zovW [zyx50d]) 100000 (zcutW [(94, 15)] none ((zyx51r, zyh291), 6, 780) [zyx51q]) 6 780 kX8_sum (zkin zyx51r zyh291) 0 (zargs 0 zyx51a, [], (zyh290.1, zyh290.2.1, 0), 0, 0)
/-! X8_heldBy -/
noncomputable def zyx52a : List zAV := [.inr (.inr (.inl 94)), .inl ((.ofNat 1, .ofNat 4), none)]
def zyx52r : Option zAV := some (.inl ((.negSucc 2147483647, .ofNat 2147483647), none))
noncomputable def zyx52p : List zPw := []
noncomputable def zyx52d : zKw := (229, 3, 7, 900, zyx52a, zyh290, [(zyx52r, zyh291)])
noncomputable def zbzyx52e : Bool := zrunw zprog2 (zovW [zyx51d, zyx48d]) 100000 (zcutW [] none ((zyx52r, zyh291), 7, 900) zyx52p) 7 900 kX8_heldBy (zkin zyx52r zyh291) 0 (zargs 0 zyx52a, [], (zyh290.1, zyh290.2.1, 0), 0, 0)
/-! X8_oneOf -/
noncomputable def zyx53a : List zAV := [zyv320, zyv362, zyv363]
noncomputable def zyx53q : List (Option zAV × zH) := [(some (.inl ((.ofNat 0, .ofNat 0), none)), zyh292), (some (.inl ((.negSucc 175, .ofNat 79), none)), zyh289)]
noncomputable def zyx53d : zKw := (260, 3, 4, 480, zyx53a, zyh287, zyx53q)
noncomputable def zbzyx53e : Bool := zrunw zprog2 (zovW []) 100000 zcut0 4 480 kX8_oneOf (zkinL zyx53q) 0 (zargs 0 zyx53a, [], (zyh287.1, zyh287.2.1, 0), 0, 0)
/-! X8_number -/
noncomputable def zyx54a : List zAV := [.inr (.inr (.inl 94)), .inl ((.ofNat 3, .ofNat 3), none)]
def zyx54r : Option zAV := some (.inl ((.negSucc 2147483647, .ofNat 2147483647), none))
noncomputable def zyx54p : List zPw := [((11, ([(0, .inr (.inr (.inl 94))), (1, .inl ((.ofNat 3, .ofNat 3), some (1, .ofNat 0))), (2, .inl ((.negSucc 2147483647, .ofNat 2147483647), some (2, .ofNat 0))), (3, .inl ((.ofNat 1, .ofNat 3), some (3, .ofNat 0)))], [], zyh288, 0, 0), [(3, .negSucc 1)], .ofNat 7), (zyx54r, zyh288), 5, 600)]
noncomputable def zyx54d : zKw := (259, 4, 5, 600, zyx54a, zyh287, [(zyx54r, zyh288)])
noncomputable def zbzyx54c : Bool := zchkX [] zprog2 (zovW [zyx53d]) 100000 kX8_number [] zyx54p zyx54p
noncomputable def zbzyx54e : Bool := zrunw zprog2 (zovW [zyx53d]) 100000 (zcutW [] none ((zyx54r, zyh288), 5, 600) zyx54p) 5 600 kX8_number (zkin zyx54r zyh288) 0 (zargs 0 zyx54a, [], (zyh287.1, zyh287.2.1, 0), 0, 0)
/-! X8_thing -/
noncomputable def zyx55a : List zAV := [.inr (.inr (.inl 94)), .inl ((.ofNat 0, .ofNat 4), none)]
def zyx55r : Option zAV := some (.inl ((.negSucc 2147483647, .ofNat 2147483647), none))
noncomputable def zyx55p : List zPw := []
noncomputable def zyx55d : zKw := (292, 4, 8, 1020, zyx55a, zyh287, [(zyx55r, zyh288)])
noncomputable def zbzyx55e : Bool := zrunw zprog2 (zovW [zyx52d, zyx49d, zyx48d, zyx54d, zyx47d]) 100000 (zcutW [] none ((zyx55r, zyh288), 8, 1020) zyx55p) 8 1020 k2X8_thing (zkin zyx55r zyh288) 0 (zargs 0 zyx55a, [], (zyh287.1, zyh287.2.1, 0), 0, 0)
/-! X8_product ((('r', 99), 40, 39),) -/
noncomputable def zyx56a : List zAV := [.inr (.inr (.inl 94)), .inl ((.ofNat 0, .ofNat 4), none)]
def zyx56r : Option zAV := some (.inl ((.negSucc 2147483647, .ofNat 2147483647), none))
noncomputable def zyx56q : zPw := ((6, ([(0, .inr (.inr (.inl 94))), (1, .inl ((.ofNat 0, .ofNat 4), some (1, .ofNat 0))), (2, .inl ((.negSucc 2147483647, .ofNat 2147483647), some (2, .ofNat 0)))], [], zyh288, 0, 0), [], 0), (zyx56r, zyh288), 9, 1140)
noncomputable def zbzyx56c : Bool := zchkX [(94, 15)] zprog2 (zovW [zyx49d, zyx55d]) 100000 k2X8_product [zyx50q] [zyx56q] [zyx56q]
noncomputable def zyx56d : zKw := (265, 5, 9, 1140, zyx56a, zyh287, [(zyx56r, zyh288)])
noncomputable def zbzyx56e : Bool := zrunw zprog2 (zovW [zyx49d, zyx55d]) 100000 (zcutW [(94, 15)] none ((zyx56r, zyh288), 9, 1140) [zyx56q, zyx50q]) 9 1140 k2X8_product (zkin zyx56r zyh288) 0 (zargs 0 zyx56a, [], (zyh287.1, zyh287.2.1, 0), 0, 0)
/-! X8_sum ((('r', 99), 40, 39),) -/
noncomputable def zyx57a : List zAV := [.inr (.inr (.inl 94)), .inl ((.ofNat 1, .ofNat 4), none)]
def zyx57r : Option zAV := some (.inl ((.negSucc 2147483647, .ofNat 2147483647), none))
noncomputable def zyx57q : zPw := ((6, ([(0, .inr (.inr (.inl 94))), (1, .inl ((.ofNat 0, .ofNat 4), some (1, .ofNat 0))), (2, .inl ((.negSucc 2147483647, .ofNat 2147483647), some (2, .ofNat 0)))], [], zyh288, 0, 0), [], 0), (zyx57r, zyh288), 10, 1260)
noncomputable def zbzyx57c : Bool := zchkX [(94, 15)] zprog2 (zovW [zyx50d, zyx56d]) 100000 kX8_sum [zyx51q] [zyx57q] [zyx57q]
noncomputable def zyx57d : zKw := (284, 5, 10, 1260, zyx57a, zyh287, [(zyx57r, zyh288)])
noncomputable def zbzyx57e : Bool := zrunw zprog2 (zovW [zyx50d, zyx56d]) 100000 (zcutW [(94, 15)] none ((zyx57r, zyh288), 10, 1260) [zyx57q, zyx51q]) 10 1260 kX8_sum (zkin zyx57r zyh288) 0 (zargs 0 zyx57a, [], (zyh287.1, zyh287.2.1, 0), 0, 0)
/-! X8_heldBy -/
noncomputable def zyx58a : List zAV := [.inr (.inr (.inl 94)), .inl ((.ofNat 1, .ofNat 4), none)]
def zyx58r : Option zAV := some (.inl ((.negSucc 2147483647, .ofNat 2147483647), none))
noncomputable def zyx58p : List zPw := []
noncomputable def zyx58d : zKw := (229, 3, 11, 1380, zyx58a, zyh287, [(zyx58r, zyh288)])
noncomputable def zbzyx58e : Bool := zrunw zprog2 (zovW [zyx51d, zyx57d, zyx47d]) 100000 (zcutW [] none ((zyx58r, zyh288), 11, 1380) zyx58p) 11 1380 kX8_heldBy (zkin zyx58r zyh288) 0 (zargs 0 zyx58a, [], (zyh287.1, zyh287.2.1, 0), 0, 0)
/-! X8_oneOf -/
noncomputable def zyx59a : List zAV := [zyv320, zyv362, zyv363]
noncomputable def zyx59q : List (Option zAV × zH) := [(some (.inl ((.ofNat 0, .ofNat 0), none)), zyh293), (some (.inl ((.negSucc 175, .ofNat 79), none)), zyh286)]
noncomputable def zyx59d : zKw := (260, 3, 4, 480, zyx59a, zyh284, zyx59q)
noncomputable def zbzyx59e : Bool := zrunw zprog2 (zovW []) 100000 zcut0 4 480 kX8_oneOf (zkinL zyx59q) 0 (zargs 0 zyx59a, [], (zyh284.1, zyh284.2.1, 0), 0, 0)
/-! X8_number -/
noncomputable def zyx60a : List zAV := [.inr (.inr (.inl 94)), .inl ((.ofNat 3, .ofNat 3), none)]
def zyx60r : Option zAV := some (.inl ((.negSucc 2147483647, .ofNat 2147483647), none))
noncomputable def zyx60p : List zPw := [((11, ([(0, .inr (.inr (.inl 94))), (1, .inl ((.ofNat 3, .ofNat 3), some (1, .ofNat 0))), (2, .inl ((.negSucc 2147483647, .ofNat 2147483647), some (2, .ofNat 0))), (3, .inl ((.ofNat 1, .ofNat 3), some (3, .ofNat 0)))], [], zyh285, 0, 0), [(3, .negSucc 1)], .ofNat 7), (zyx60r, zyh285), 5, 600)]
noncomputable def zyx60d : zKw := (259, 4, 5, 600, zyx60a, zyh284, [(zyx60r, zyh285)])
noncomputable def zbzyx60c : Bool := zchkX [] zprog2 (zovW [zyx59d]) 100000 kX8_number [] zyx60p zyx60p
noncomputable def zbzyx60e : Bool := zrunw zprog2 (zovW [zyx59d]) 100000 (zcutW [] none ((zyx60r, zyh285), 5, 600) zyx60p) 5 600 kX8_number (zkin zyx60r zyh285) 0 (zargs 0 zyx60a, [], (zyh284.1, zyh284.2.1, 0), 0, 0)
/-! X8_thing -/
noncomputable def zyx61a : List zAV := [.inr (.inr (.inl 94)), .inl ((.ofNat 0, .ofNat 4), none)]
def zyx61r : Option zAV := some (.inl ((.negSucc 2147483647, .ofNat 2147483647), none))
noncomputable def zyx61p : List zPw := []
noncomputable def zyx61d : zKw := (292, 4, 12, 1500, zyx61a, zyh284, [(zyx61r, zyh285)])
noncomputable def zbzyx61e : Bool := zrunw zprog2 (zovW [zyx58d, zyx55d, zyx47d, zyx60d, zyx46d]) 100000 (zcutW [] none ((zyx61r, zyh285), 12, 1500) zyx61p) 12 1500 k2X8_thing (zkin zyx61r zyh285) 0 (zargs 0 zyx61a, [], (zyh284.1, zyh284.2.1, 0), 0, 0)
/-! X8_product ((('r', 99), 40, 38),) -/
noncomputable def zyx62a : List zAV := [.inr (.inr (.inl 94)), .inl ((.ofNat 0, .ofNat 4), none)]
def zyx62r : Option zAV := some (.inl ((.negSucc 2147483647, .ofNat 2147483647), none))
noncomputable def zyx62q : zPw := ((6, ([(0, .inr (.inr (.inl 94))), (1, .inl ((.ofNat 0, .ofNat 4), some (1, .ofNat 0))), (2, .inl ((.negSucc 2147483647, .ofNat 2147483647), some (2, .ofNat 0)))], [], zyh285, 0, 0), [], 0), (zyx62r, zyh285), 13, 1620)
noncomputable def zbzyx62c : Bool := zchkX [(94, 15)] zprog2 (zovW [zyx55d, zyx61d]) 100000 k2X8_product [zyx56q, zyx50q] [zyx62q] [zyx62q]
noncomputable def zyx62d : zKw := (265, 5, 13, 1620, zyx62a, zyh284, [(zyx62r, zyh285)])
noncomputable def zbzyx62e : Bool := zrunw zprog2 (zovW [zyx55d, zyx61d]) 100000 (zcutW [(94, 15)] none ((zyx62r, zyh285), 13, 1620) [zyx62q, zyx56q, zyx50q]) 13 1620 k2X8_product (zkin zyx62r zyh285) 0 (zargs 0 zyx62a, [], (zyh284.1, zyh284.2.1, 0), 0, 0)
/-! X8_sum ((('r', 99), 40, 38),) -/
noncomputable def zyx63a : List zAV := [.inr (.inr (.inl 94)), .inl ((.ofNat 1, .ofNat 4), none)]
def zyx63r : Option zAV := some (.inl ((.negSucc 2147483647, .ofNat 2147483647), none))
noncomputable def zyx63q : zPw := ((6, ([(0, .inr (.inr (.inl 94))), (1, .inl ((.ofNat 0, .ofNat 4), some (1, .ofNat 0))), (2, .inl ((.negSucc 2147483647, .ofNat 2147483647), some (2, .ofNat 0)))], [], zyh285, 0, 0), [], 0), (zyx63r, zyh285), 14, 1740)
noncomputable def zbzyx63c : Bool := zchkX [(94, 15)] zprog2 (zovW [zyx56d, zyx62d]) 100000 kX8_sum [zyx57q, zyx51q] [zyx63q] [zyx63q]
noncomputable def zyx63d : zKw := (284, 5, 14, 1740, zyx63a, zyh284, [(zyx63r, zyh285)])
noncomputable def zbzyx63e : Bool := zrunw zprog2 (zovW [zyx56d, zyx62d]) 100000 (zcutW [(94, 15)] none ((zyx63r, zyh285), 14, 1740) [zyx63q, zyx57q, zyx51q]) 14 1740 kX8_sum (zkin zyx63r zyh285) 0 (zargs 0 zyx63a, [], (zyh284.1, zyh284.2.1, 0), 0, 0)
/-! X8_heldBy -/
noncomputable def zyx64a : List zAV := [.inr (.inr (.inl 94)), .inl ((.ofNat 1, .ofNat 4), none)]
def zyx64r : Option zAV := some (.inl ((.negSucc 2147483647, .ofNat 2147483647), none))
noncomputable def zyx64p : List zPw := []
noncomputable def zyx64d : zKw := (229, 3, 15, 1860, zyx64a, zyh284, [(zyx64r, zyh285)])
noncomputable def zbzyx64e : Bool := zrunw zprog2 (zovW [zyx57d, zyx63d, zyx46d]) 100000 (zcutW [] none ((zyx64r, zyh285), 15, 1860) zyx64p) 15 1860 kX8_heldBy (zkin zyx64r zyh285) 0 (zargs 0 zyx64a, [], (zyh284.1, zyh284.2.1, 0), 0, 0)
/-! X8_oneOf -/
noncomputable def zyx65a : List zAV := [zyv320, zyv362, zyv363]
noncomputable def zyx65q : List (Option zAV × zH) := [(some (.inl ((.ofNat 0, .ofNat 0), none)), zyh294), (some (.inl ((.negSucc 175, .ofNat 79), none)), zyh283)]
noncomputable def zyx65d : zKw := (260, 3, 4, 480, zyx65a, zyh281, zyx65q)
noncomputable def zbzyx65e : Bool := zrunw zprog2 (zovW []) 100000 zcut0 4 480 kX8_oneOf (zkinL zyx65q) 0 (zargs 0 zyx65a, [], (zyh281.1, zyh281.2.1, 0), 0, 0)
/-! X8_number -/
noncomputable def zyx66a : List zAV := [.inr (.inr (.inl 94)), .inl ((.ofNat 3, .ofNat 3), none)]
def zyx66r : Option zAV := some (.inl ((.negSucc 2147483647, .ofNat 2147483647), none))
noncomputable def zyx66p : List zPw := [((11, ([(0, .inr (.inr (.inl 94))), (1, .inl ((.ofNat 3, .ofNat 3), some (1, .ofNat 0))), (2, .inl ((.negSucc 2147483647, .ofNat 2147483647), some (2, .ofNat 0))), (3, .inl ((.ofNat 1, .ofNat 3), some (3, .ofNat 0)))], [], zyh282, 0, 0), [(3, .negSucc 1)], .ofNat 7), (zyx66r, zyh282), 5, 600)]
noncomputable def zyx66d : zKw := (259, 4, 5, 600, zyx66a, zyh281, [(zyx66r, zyh282)])
noncomputable def zbzyx66c : Bool := zchkX [] zprog2 (zovW [zyx65d]) 100000 kX8_number [] zyx66p zyx66p
noncomputable def zbzyx66e : Bool := zrunw zprog2 (zovW [zyx65d]) 100000 (zcutW [] none ((zyx66r, zyh282), 5, 600) zyx66p) 5 600 kX8_number (zkin zyx66r zyh282) 0 (zargs 0 zyx66a, [], (zyh281.1, zyh281.2.1, 0), 0, 0)
/-! X8_thing -/
noncomputable def zyx67a : List zAV := [.inr (.inr (.inl 94)), .inl ((.ofNat 0, .ofNat 4), none)]
def zyx67r : Option zAV := some (.inl ((.negSucc 2147483647, .ofNat 2147483647), none))
noncomputable def zyx67p : List zPw := []
noncomputable def zyx67d : zKw := (292, 4, 16, 1980, zyx67a, zyh281, [(zyx67r, zyh282)])
noncomputable def zbzyx67e : Bool := zrunw zprog2 (zovW [zyx64d, zyx61d, zyx46d, zyx66d, zyx45d]) 100000 (zcutW [] none ((zyx67r, zyh282), 16, 1980) zyx67p) 16 1980 k2X8_thing (zkin zyx67r zyh282) 0 (zargs 0 zyx67a, [], (zyh281.1, zyh281.2.1, 0), 0, 0)
/-! X8_product ((('r', 99), 40, 37),) -/
noncomputable def zyx68a : List zAV := [.inr (.inr (.inl 94)), .inl ((.ofNat 0, .ofNat 4), none)]
def zyx68r : Option zAV := some (.inl ((.negSucc 2147483647, .ofNat 2147483647), none))
noncomputable def zyx68q : zPw := ((6, ([(0, .inr (.inr (.inl 94))), (1, .inl ((.ofNat 0, .ofNat 4), some (1, .ofNat 0))), (2, .inl ((.negSucc 2147483647, .ofNat 2147483647), some (2, .ofNat 0)))], [], zyh282, 0, 0), [], 0), (zyx68r, zyh282), 17, 2100)
noncomputable def zbzyx68c : Bool := zchkX [(94, 15)] zprog2 (zovW [zyx61d, zyx67d]) 100000 k2X8_product [zyx62q, zyx56q, zyx50q] [zyx68q] [zyx68q]
noncomputable def zyx68d : zKw := (265, 5, 17, 2100, zyx68a, zyh281, [(zyx68r, zyh282)])
noncomputable def zbzyx68e : Bool := zrunw zprog2 (zovW [zyx61d, zyx67d]) 100000 (zcutW [(94, 15)] none ((zyx68r, zyh282), 17, 2100) [zyx68q, zyx62q, zyx56q, zyx50q]) 17 2100 k2X8_product (zkin zyx68r zyh282) 0 (zargs 0 zyx68a, [], (zyh281.1, zyh281.2.1, 0), 0, 0)
/-! X8_sum ((('r', 99), 40, 37),) -/
noncomputable def zyx69a : List zAV := [.inr (.inr (.inl 94)), .inl ((.ofNat 1, .ofNat 4), none)]
def zyx69r : Option zAV := some (.inl ((.negSucc 2147483647, .ofNat 2147483647), none))
noncomputable def zyx69q : zPw := ((6, ([(0, .inr (.inr (.inl 94))), (1, .inl ((.ofNat 0, .ofNat 4), some (1, .ofNat 0))), (2, .inl ((.negSucc 2147483647, .ofNat 2147483647), some (2, .ofNat 0)))], [], zyh282, 0, 0), [], 0), (zyx69r, zyh282), 18, 2220)
noncomputable def zbzyx69c : Bool := zchkX [(94, 15)] zprog2 (zovW [zyx62d, zyx68d]) 100000 kX8_sum [zyx63q, zyx57q, zyx51q] [zyx69q] [zyx69q]
noncomputable def zyx69d : zKw := (284, 5, 18, 2220, zyx69a, zyh281, [(zyx69r, zyh282)])
noncomputable def zbzyx69e : Bool := zrunw zprog2 (zovW [zyx62d, zyx68d]) 100000 (zcutW [(94, 15)] none ((zyx69r, zyh282), 18, 2220) [zyx69q, zyx63q, zyx57q, zyx51q]) 18 2220 kX8_sum (zkin zyx69r zyh282) 0 (zargs 0 zyx69a, [], (zyh281.1, zyh281.2.1, 0), 0, 0)
/-! X8_heldBy -/
noncomputable def zyx70a : List zAV := [.inr (.inr (.inl 94)), .inl ((.ofNat 1, .ofNat 4), none)]
def zyx70r : Option zAV := some (.inl ((.negSucc 2147483647, .ofNat 2147483647), none))
noncomputable def zyx70p : List zPw := []
noncomputable def zyx70d : zKw := (229, 3, 19, 2340, zyx70a, zyh281, [(zyx70r, zyh282)])
noncomputable def zbzyx70e : Bool := zrunw zprog2 (zovW [zyx63d, zyx69d, zyx45d]) 100000 (zcutW [] none ((zyx70r, zyh282), 19, 2340) zyx70p) 19 2340 kX8_heldBy (zkin zyx70r zyh282) 0 (zargs 0 zyx70a, [], (zyh281.1, zyh281.2.1, 0), 0, 0)
/-! X8_oneOf -/
noncomputable def zyx71a : List zAV := [zyv320, zyv362, zyv363]
noncomputable def zyx71q : List (Option zAV × zH) := [(some (.inl ((.ofNat 0, .ofNat 0), none)), zyh295), (some (.inl ((.negSucc 175, .ofNat 79), none)), zyh280)]
noncomputable def zyx71d : zKw := (260, 3, 4, 480, zyx71a, zyh278, zyx71q)
noncomputable def zbzyx71e : Bool := zrunw zprog2 (zovW []) 100000 zcut0 4 480 kX8_oneOf (zkinL zyx71q) 0 (zargs 0 zyx71a, [], (zyh278.1, zyh278.2.1, 0), 0, 0)
/-! X8_number -/
noncomputable def zyx72a : List zAV := [.inr (.inr (.inl 94)), .inl ((.ofNat 3, .ofNat 3), none)]
def zyx72r : Option zAV := some (.inl ((.negSucc 2147483647, .ofNat 2147483647), none))
noncomputable def zyx72p : List zPw := [((11, ([(0, .inr (.inr (.inl 94))), (1, .inl ((.ofNat 3, .ofNat 3), some (1, .ofNat 0))), (2, .inl ((.negSucc 2147483647, .ofNat 2147483647), some (2, .ofNat 0))), (3, .inl ((.ofNat 1, .ofNat 3), some (3, .ofNat 0)))], [], zyh279, 0, 0), [(3, .negSucc 1)], .ofNat 7), (zyx72r, zyh279), 5, 600)]
noncomputable def zyx72d : zKw := (259, 4, 5, 600, zyx72a, zyh278, [(zyx72r, zyh279)])
noncomputable def zbzyx72c : Bool := zchkX [] zprog2 (zovW [zyx71d]) 100000 kX8_number [] zyx72p zyx72p
noncomputable def zbzyx72e : Bool := zrunw zprog2 (zovW [zyx71d]) 100000 (zcutW [] none ((zyx72r, zyh279), 5, 600) zyx72p) 5 600 kX8_number (zkin zyx72r zyh279) 0 (zargs 0 zyx72a, [], (zyh278.1, zyh278.2.1, 0), 0, 0)
/-! X8_thing -/
noncomputable def zyx73a : List zAV := [.inr (.inr (.inl 94)), .inl ((.ofNat 0, .ofNat 4), none)]
def zyx73r : Option zAV := some (.inl ((.negSucc 2147483647, .ofNat 2147483647), none))
noncomputable def zyx73p : List zPw := []
noncomputable def zyx73d : zKw := (292, 4, 20, 2460, zyx73a, zyh278, [(zyx73r, zyh279)])
noncomputable def zbzyx73e : Bool := zrunw zprog2 (zovW [zyx70d, zyx67d, zyx45d, zyx72d, zyx44d]) 100000 (zcutW [] none ((zyx73r, zyh279), 20, 2460) zyx73p) 20 2460 k2X8_thing (zkin zyx73r zyh279) 0 (zargs 0 zyx73a, [], (zyh278.1, zyh278.2.1, 0), 0, 0)
/-! X8_product ((('r', 99), 40, 36),) -/
noncomputable def zyx74a : List zAV := [.inr (.inr (.inl 94)), .inl ((.ofNat 0, .ofNat 4), none)]
def zyx74r : Option zAV := some (.inl ((.negSucc 2147483647, .ofNat 2147483647), none))
noncomputable def zyx74q : zPw := ((6, ([(0, .inr (.inr (.inl 94))), (1, .inl ((.ofNat 0, .ofNat 4), some (1, .ofNat 0))), (2, .inl ((.negSucc 2147483647, .ofNat 2147483647), some (2, .ofNat 0)))], [], zyh279, 0, 0), [], 0), (zyx74r, zyh279), 21, 2580)
noncomputable def zbzyx74c : Bool := zchkX [(94, 15)] zprog2 (zovW [zyx67d, zyx73d]) 100000 k2X8_product [zyx68q, zyx62q, zyx56q, zyx50q] [zyx74q] [zyx74q]
noncomputable def zyx74d : zKw := (265, 5, 21, 2580, zyx74a, zyh278, [(zyx74r, zyh279)])
noncomputable def zbzyx74e : Bool := zrunw zprog2 (zovW [zyx67d, zyx73d]) 100000 (zcutW [(94, 15)] none ((zyx74r, zyh279), 21, 2580) [zyx74q, zyx68q, zyx62q, zyx56q, zyx50q]) 21 2580 k2X8_product (zkin zyx74r zyh279) 0 (zargs 0 zyx74a, [], (zyh278.1, zyh278.2.1, 0), 0, 0)
/-! X8_sum ((('r', 99), 40, 36),) -/
noncomputable def zyx75a : List zAV := [.inr (.inr (.inl 94)), .inl ((.ofNat 1, .ofNat 4), none)]
def zyx75r : Option zAV := some (.inl ((.negSucc 2147483647, .ofNat 2147483647), none))
noncomputable def zyx75q : zPw := ((6, ([(0, .inr (.inr (.inl 94))), (1, .inl ((.ofNat 0, .ofNat 4), some (1, .ofNat 0))), (2, .inl ((.negSucc 2147483647, .ofNat 2147483647), some (2, .ofNat 0)))], [], zyh279, 0, 0), [], 0), (zyx75r, zyh279), 22, 2700)
noncomputable def zbzyx75c : Bool := zchkX [(94, 15)] zprog2 (zovW [zyx68d, zyx74d]) 100000 kX8_sum [zyx69q, zyx63q, zyx57q, zyx51q] [zyx75q] [zyx75q]
noncomputable def zyx75d : zKw := (284, 5, 22, 2700, zyx75a, zyh278, [(zyx75r, zyh279)])
noncomputable def zbzyx75e : Bool := zrunw zprog2 (zovW [zyx68d, zyx74d]) 100000 (zcutW [(94, 15)] none ((zyx75r, zyh279), 22, 2700) [zyx75q, zyx69q, zyx63q, zyx57q, zyx51q]) 22 2700 kX8_sum (zkin zyx75r zyh279) 0 (zargs 0 zyx75a, [], (zyh278.1, zyh278.2.1, 0), 0, 0)
/-! X8_heldBy -/
noncomputable def zyx76a : List zAV := [.inr (.inr (.inl 94)), .inl ((.ofNat 1, .ofNat 4), none)]
def zyx76r : Option zAV := some (.inl ((.negSucc 2147483647, .ofNat 2147483647), none))
noncomputable def zyx76p : List zPw := []
noncomputable def zyx76d : zKw := (229, 3, 23, 2820, zyx76a, zyh278, [(zyx76r, zyh279)])
noncomputable def zbzyx76e : Bool := zrunw zprog2 (zovW [zyx69d, zyx75d, zyx44d]) 100000 (zcutW [] none ((zyx76r, zyh279), 23, 2820) zyx76p) 23 2820 kX8_heldBy (zkin zyx76r zyh279) 0 (zargs 0 zyx76a, [], (zyh278.1, zyh278.2.1, 0), 0, 0)
/-! X8_oneOf -/
noncomputable def zyx77a : List zAV := [zyv320, zyv362, zyv363]
noncomputable def zyx77q : List (Option zAV × zH) := [(some (.inl ((.ofNat 0, .ofNat 0), none)), zyh296), (some (.inl ((.negSucc 175, .ofNat 79), none)), zyh277)]
noncomputable def zyx77d : zKw := (260, 3, 4, 480, zyx77a, zyh275, zyx77q)
noncomputable def zbzyx77e : Bool := zrunw zprog2 (zovW []) 100000 zcut0 4 480 kX8_oneOf (zkinL zyx77q) 0 (zargs 0 zyx77a, [], (zyh275.1, zyh275.2.1, 0), 0, 0)
/-! X8_number -/
noncomputable def zyx78a : List zAV := [.inr (.inr (.inl 94)), .inl ((.ofNat 3, .ofNat 3), none)]
def zyx78r : Option zAV := some (.inl ((.negSucc 2147483647, .ofNat 2147483647), none))
noncomputable def zyx78p : List zPw := [((11, ([(0, .inr (.inr (.inl 94))), (1, .inl ((.ofNat 3, .ofNat 3), some (1, .ofNat 0))), (2, .inl ((.negSucc 2147483647, .ofNat 2147483647), some (2, .ofNat 0))), (3, .inl ((.ofNat 1, .ofNat 3), some (3, .ofNat 0)))], [], zyh276, 0, 0), [(3, .negSucc 1)], .ofNat 7), (zyx78r, zyh276), 5, 600)]
noncomputable def zyx78d : zKw := (259, 4, 5, 600, zyx78a, zyh275, [(zyx78r, zyh276)])
noncomputable def zbzyx78c : Bool := zchkX [] zprog2 (zovW [zyx77d]) 100000 kX8_number [] zyx78p zyx78p
noncomputable def zbzyx78e : Bool := zrunw zprog2 (zovW [zyx77d]) 100000 (zcutW [] none ((zyx78r, zyh276), 5, 600) zyx78p) 5 600 kX8_number (zkin zyx78r zyh276) 0 (zargs 0 zyx78a, [], (zyh275.1, zyh275.2.1, 0), 0, 0)
/-! X8_thing -/
noncomputable def zyx79a : List zAV := [.inr (.inr (.inl 94)), .inl ((.ofNat 0, .ofNat 4), none)]
def zyx79r : Option zAV := some (.inl ((.negSucc 2147483647, .ofNat 2147483647), none))
noncomputable def zyx79p : List zPw := []
noncomputable def zyx79d : zKw := (292, 4, 24, 2940, zyx79a, zyh275, [(zyx79r, zyh276)])
noncomputable def zbzyx79e : Bool := zrunw zprog2 (zovW [zyx76d, zyx73d, zyx44d, zyx78d, zyx43d]) 100000 (zcutW [] none ((zyx79r, zyh276), 24, 2940) zyx79p) 24 2940 k2X8_thing (zkin zyx79r zyh276) 0 (zargs 0 zyx79a, [], (zyh275.1, zyh275.2.1, 0), 0, 0)
/-! X8_product ((('r', 99), 40, 35),) -/
noncomputable def zyx80a : List zAV := [.inr (.inr (.inl 94)), .inl ((.ofNat 0, .ofNat 4), none)]
def zyx80r : Option zAV := some (.inl ((.negSucc 2147483647, .ofNat 2147483647), none))
noncomputable def zyx80q : zPw := ((6, ([(0, .inr (.inr (.inl 94))), (1, .inl ((.ofNat 0, .ofNat 4), some (1, .ofNat 0))), (2, .inl ((.negSucc 2147483647, .ofNat 2147483647), some (2, .ofNat 0)))], [], zyh276, 0, 0), [], 0), (zyx80r, zyh276), 25, 3060)
noncomputable def zbzyx80c : Bool := zchkX [(94, 15)] zprog2 (zovW [zyx73d, zyx79d]) 100000 k2X8_product [zyx74q, zyx68q, zyx62q, zyx56q, zyx50q] [zyx80q] [zyx80q]
noncomputable def zyx80d : zKw := (265, 5, 25, 3060, zyx80a, zyh275, [(zyx80r, zyh276)])
noncomputable def zbzyx80e : Bool := zrunw zprog2 (zovW [zyx73d, zyx79d]) 100000 (zcutW [(94, 15)] none ((zyx80r, zyh276), 25, 3060) [zyx80q, zyx74q, zyx68q, zyx62q, zyx56q, zyx50q]) 25 3060 k2X8_product (zkin zyx80r zyh276) 0 (zargs 0 zyx80a, [], (zyh275.1, zyh275.2.1, 0), 0, 0)
/-! X8_sum ((('r', 99), 40, 35),) -/
noncomputable def zyx81a : List zAV := [.inr (.inr (.inl 94)), .inl ((.ofNat 1, .ofNat 4), none)]
def zyx81r : Option zAV := some (.inl ((.negSucc 2147483647, .ofNat 2147483647), none))
noncomputable def zyx81q : zPw := ((6, ([(0, .inr (.inr (.inl 94))), (1, .inl ((.ofNat 0, .ofNat 4), some (1, .ofNat 0))), (2, .inl ((.negSucc 2147483647, .ofNat 2147483647), some (2, .ofNat 0)))], [], zyh276, 0, 0), [], 0), (zyx81r, zyh276), 26, 3180)
noncomputable def zbzyx81c : Bool := zchkX [(94, 15)] zprog2 (zovW [zyx74d, zyx80d]) 100000 kX8_sum [zyx75q, zyx69q, zyx63q, zyx57q, zyx51q] [zyx81q] [zyx81q]
noncomputable def zyx81d : zKw := (284, 5, 26, 3180, zyx81a, zyh275, [(zyx81r, zyh276)])
noncomputable def zbzyx81e : Bool := zrunw zprog2 (zovW [zyx74d, zyx80d]) 100000 (zcutW [(94, 15)] none ((zyx81r, zyh276), 26, 3180) [zyx81q, zyx75q, zyx69q, zyx63q, zyx57q, zyx51q]) 26 3180 kX8_sum (zkin zyx81r zyh276) 0 (zargs 0 zyx81a, [], (zyh275.1, zyh275.2.1, 0), 0, 0)
/-! X8_heldBy -/
noncomputable def zyx82a : List zAV := [.inr (.inr (.inl 94)), .inl ((.ofNat 1, .ofNat 4), none)]
def zyx82r : Option zAV := some (.inl ((.negSucc 2147483647, .ofNat 2147483647), none))
noncomputable def zyx82p : List zPw := []
noncomputable def zyx82d : zKw := (229, 3, 27, 3300, zyx82a, zyh275, [(zyx82r, zyh276)])
noncomputable def zbzyx82e : Bool := zrunw zprog2 (zovW [zyx75d, zyx81d, zyx43d]) 100000 (zcutW [] none ((zyx82r, zyh276), 27, 3300) zyx82p) 27 3300 kX8_heldBy (zkin zyx82r zyh276) 0 (zargs 0 zyx82a, [], (zyh275.1, zyh275.2.1, 0), 0, 0)
/-! X8_oneOf -/
noncomputable def zyx83a : List zAV := [zyv320, zyv362, zyv363]
noncomputable def zyx83q : List (Option zAV × zH) := [(some (.inl ((.ofNat 0, .ofNat 0), none)), zyh297), (some (.inl ((.negSucc 175, .ofNat 79), none)), zyh274)]
noncomputable def zyx83d : zKw := (260, 3, 4, 480, zyx83a, zyh272, zyx83q)
noncomputable def zbzyx83e : Bool := zrunw zprog2 (zovW []) 100000 zcut0 4 480 kX8_oneOf (zkinL zyx83q) 0 (zargs 0 zyx83a, [], (zyh272.1, zyh272.2.1, 0), 0, 0)
/-! X8_number -/
noncomputable def zyx84a : List zAV := [.inr (.inr (.inl 94)), .inl ((.ofNat 3, .ofNat 3), none)]
def zyx84r : Option zAV := some (.inl ((.negSucc 2147483647, .ofNat 2147483647), none))
noncomputable def zyx84p : List zPw := [((11, ([(0, .inr (.inr (.inl 94))), (1, .inl ((.ofNat 3, .ofNat 3), some (1, .ofNat 0))), (2, .inl ((.negSucc 2147483647, .ofNat 2147483647), some (2, .ofNat 0))), (3, .inl ((.ofNat 1, .ofNat 3), some (3, .ofNat 0)))], [], zyh273, 0, 0), [(3, .negSucc 1)], .ofNat 7), (zyx84r, zyh273), 5, 600)]
noncomputable def zyx84d : zKw := (259, 4, 5, 600, zyx84a, zyh272, [(zyx84r, zyh273)])
noncomputable def zbzyx84c : Bool := zchkX [] zprog2 (zovW [zyx83d]) 100000 kX8_number [] zyx84p zyx84p
noncomputable def zbzyx84e : Bool := zrunw zprog2 (zovW [zyx83d]) 100000 (zcutW [] none ((zyx84r, zyh273), 5, 600) zyx84p) 5 600 kX8_number (zkin zyx84r zyh273) 0 (zargs 0 zyx84a, [], (zyh272.1, zyh272.2.1, 0), 0, 0)
/-! X8_thing -/
noncomputable def zyx85a : List zAV := [.inr (.inr (.inl 94)), .inl ((.ofNat 0, .ofNat 4), none)]
def zyx85r : Option zAV := some (.inl ((.negSucc 2147483647, .ofNat 2147483647), none))
noncomputable def zyx85p : List zPw := []
noncomputable def zyx85d : zKw := (292, 4, 28, 3420, zyx85a, zyh272, [(zyx85r, zyh273)])
noncomputable def zbzyx85e : Bool := zrunw zprog2 (zovW [zyx82d, zyx79d, zyx43d, zyx84d, zyx42d]) 100000 (zcutW [] none ((zyx85r, zyh273), 28, 3420) zyx85p) 28 3420 k2X8_thing (zkin zyx85r zyh273) 0 (zargs 0 zyx85a, [], (zyh272.1, zyh272.2.1, 0), 0, 0)
/-! X8_product ((('r', 99), 40, 34),) -/
noncomputable def zyx86a : List zAV := [.inr (.inr (.inl 94)), .inl ((.ofNat 0, .ofNat 4), none)]
def zyx86r : Option zAV := some (.inl ((.negSucc 2147483647, .ofNat 2147483647), none))
noncomputable def zyx86q : zPw := ((6, ([(0, .inr (.inr (.inl 94))), (1, .inl ((.ofNat 0, .ofNat 4), some (1, .ofNat 0))), (2, .inl ((.negSucc 2147483647, .ofNat 2147483647), some (2, .ofNat 0)))], [], zyh273, 0, 0), [], 0), (zyx86r, zyh273), 29, 3540)
noncomputable def zbzyx86c : Bool := zchkX [(94, 15)] zprog2 (zovW [zyx79d, zyx85d]) 100000 k2X8_product [zyx80q, zyx74q, zyx68q, zyx62q, zyx56q, zyx50q] [zyx86q] [zyx86q]
noncomputable def zyx86d : zKw := (265, 5, 29, 3540, zyx86a, zyh272, [(zyx86r, zyh273)])
noncomputable def zbzyx86e : Bool := zrunw zprog2 (zovW [zyx79d, zyx85d]) 100000 (zcutW [(94, 15)] none ((zyx86r, zyh273), 29, 3540) [zyx86q, zyx80q, zyx74q, zyx68q, zyx62q, zyx56q, zyx50q]) 29 3540 k2X8_product (zkin zyx86r zyh273) 0 (zargs 0 zyx86a, [], (zyh272.1, zyh272.2.1, 0), 0, 0)
/-! X8_sum ((('r', 99), 40, 34),) -/
noncomputable def zyx87a : List zAV := [.inr (.inr (.inl 94)), .inl ((.ofNat 1, .ofNat 4), none)]
def zyx87r : Option zAV := some (.inl ((.negSucc 2147483647, .ofNat 2147483647), none))
noncomputable def zyx87q : zPw := ((6, ([(0, .inr (.inr (.inl 94))), (1, .inl ((.ofNat 0, .ofNat 4), some (1, .ofNat 0))), (2, .inl ((.negSucc 2147483647, .ofNat 2147483647), some (2, .ofNat 0)))], [], zyh273, 0, 0), [], 0), (zyx87r, zyh273), 30, 3660)
noncomputable def zbzyx87c : Bool := zchkX [(94, 15)] zprog2 (zovW [zyx80d, zyx86d]) 100000 kX8_sum [zyx81q, zyx75q, zyx69q, zyx63q, zyx57q, zyx51q] [zyx87q] [zyx87q]
noncomputable def zyx87d : zKw := (284, 5, 30, 3660, zyx87a, zyh272, [(zyx87r, zyh273)])
noncomputable def zbzyx87e : Bool := zrunw zprog2 (zovW [zyx80d, zyx86d]) 100000 (zcutW [(94, 15)] none ((zyx87r, zyh273), 30, 3660) [zyx87q, zyx81q, zyx75q, zyx69q, zyx63q, zyx57q, zyx51q]) 30 3660 kX8_sum (zkin zyx87r zyh273) 0 (zargs 0 zyx87a, [], (zyh272.1, zyh272.2.1, 0), 0, 0)
/-! X8_heldBy -/
noncomputable def zyx88a : List zAV := [.inr (.inr (.inl 94)), .inl ((.ofNat 1, .ofNat 4), none)]
def zyx88r : Option zAV := some (.inl ((.negSucc 2147483647, .ofNat 2147483647), none))
noncomputable def zyx88p : List zPw := []
noncomputable def zyx88d : zKw := (229, 3, 31, 3780, zyx88a, zyh272, [(zyx88r, zyh273)])
noncomputable def zbzyx88e : Bool := zrunw zprog2 (zovW [zyx81d, zyx87d, zyx42d]) 100000 (zcutW [] none ((zyx88r, zyh273), 31, 3780) zyx88p) 31 3780 kX8_heldBy (zkin zyx88r zyh273) 0 (zargs 0 zyx88a, [], (zyh272.1, zyh272.2.1, 0), 0, 0)
/-! X8_oneOf -/
noncomputable def zyx89a : List zAV := [zyv320, zyv362, zyv363]
noncomputable def zyx89q : List (Option zAV × zH) := [(some (.inl ((.ofNat 0, .ofNat 0), none)), zyh298), (some (.inl ((.negSucc 175, .ofNat 79), none)), zyh271)]
noncomputable def zyx89d : zKw := (260, 3, 4, 480, zyx89a, zyh269, zyx89q)
noncomputable def zbzyx89e : Bool := zrunw zprog2 (zovW []) 100000 zcut0 4 480 kX8_oneOf (zkinL zyx89q) 0 (zargs 0 zyx89a, [], (zyh269.1, zyh269.2.1, 0), 0, 0)
/-! X8_number -/
noncomputable def zyx90a : List zAV := [.inr (.inr (.inl 94)), .inl ((.ofNat 3, .ofNat 3), none)]
def zyx90r : Option zAV := some (.inl ((.negSucc 2147483647, .ofNat 2147483647), none))
noncomputable def zyx90p : List zPw := [((11, ([(0, .inr (.inr (.inl 94))), (1, .inl ((.ofNat 3, .ofNat 3), some (1, .ofNat 0))), (2, .inl ((.negSucc 2147483647, .ofNat 2147483647), some (2, .ofNat 0))), (3, .inl ((.ofNat 1, .ofNat 3), some (3, .ofNat 0)))], [], zyh270, 0, 0), [(3, .negSucc 1)], .ofNat 7), (zyx90r, zyh270), 5, 600)]
noncomputable def zyx90d : zKw := (259, 4, 5, 600, zyx90a, zyh269, [(zyx90r, zyh270)])
noncomputable def zbzyx90c : Bool := zchkX [] zprog2 (zovW [zyx89d]) 100000 kX8_number [] zyx90p zyx90p
noncomputable def zbzyx90e : Bool := zrunw zprog2 (zovW [zyx89d]) 100000 (zcutW [] none ((zyx90r, zyh270), 5, 600) zyx90p) 5 600 kX8_number (zkin zyx90r zyh270) 0 (zargs 0 zyx90a, [], (zyh269.1, zyh269.2.1, 0), 0, 0)
/-! X8_thing -/
noncomputable def zyx91a : List zAV := [.inr (.inr (.inl 94)), .inl ((.ofNat 0, .ofNat 4), none)]
def zyx91r : Option zAV := some (.inl ((.negSucc 2147483647, .ofNat 2147483647), none))
noncomputable def zyx91p : List zPw := []
noncomputable def zyx91d : zKw := (292, 4, 32, 3900, zyx91a, zyh269, [(zyx91r, zyh270)])
noncomputable def zbzyx91e : Bool := zrunw zprog2 (zovW [zyx88d, zyx85d, zyx42d, zyx90d, zyx41d]) 100000 (zcutW [] none ((zyx91r, zyh270), 32, 3900) zyx91p) 32 3900 k2X8_thing (zkin zyx91r zyh270) 0 (zargs 0 zyx91a, [], (zyh269.1, zyh269.2.1, 0), 0, 0)
/-! X8_product ((('r', 99), 40, 33),) -/
noncomputable def zyx92a : List zAV := [.inr (.inr (.inl 94)), .inl ((.ofNat 0, .ofNat 4), none)]
def zyx92r : Option zAV := some (.inl ((.negSucc 2147483647, .ofNat 2147483647), none))
noncomputable def zyx92q : zPw := ((6, ([(0, .inr (.inr (.inl 94))), (1, .inl ((.ofNat 0, .ofNat 4), some (1, .ofNat 0))), (2, .inl ((.negSucc 2147483647, .ofNat 2147483647), some (2, .ofNat 0)))], [], zyh270, 0, 0), [], 0), (zyx92r, zyh270), 33, 4020)
noncomputable def zbzyx92c : Bool := zchkX [(94, 15)] zprog2 (zovW [zyx85d, zyx91d]) 100000 k2X8_product [zyx86q, zyx80q, zyx74q, zyx68q, zyx62q, zyx56q, zyx50q] [zyx92q] [zyx92q]
noncomputable def zyx92d : zKw := (265, 5, 33, 4020, zyx92a, zyh269, [(zyx92r, zyh270)])
noncomputable def zbzyx92e : Bool := zrunw zprog2 (zovW [zyx85d, zyx91d]) 100000 (zcutW [(94, 15)] none ((zyx92r, zyh270), 33, 4020) [zyx92q, zyx86q, zyx80q, zyx74q, zyx68q, zyx62q, zyx56q, zyx50q]) 33 4020 k2X8_product (zkin zyx92r zyh270) 0 (zargs 0 zyx92a, [], (zyh269.1, zyh269.2.1, 0), 0, 0)
/-! X8_sum ((('r', 99), 40, 33),) -/
noncomputable def zyx93a : List zAV := [.inr (.inr (.inl 94)), .inl ((.ofNat 1, .ofNat 4), none)]
def zyx93r : Option zAV := some (.inl ((.negSucc 2147483647, .ofNat 2147483647), none))
noncomputable def zyx93q : zPw := ((6, ([(0, .inr (.inr (.inl 94))), (1, .inl ((.ofNat 0, .ofNat 4), some (1, .ofNat 0))), (2, .inl ((.negSucc 2147483647, .ofNat 2147483647), some (2, .ofNat 0)))], [], zyh270, 0, 0), [], 0), (zyx93r, zyh270), 34, 4140)
noncomputable def zbzyx93c : Bool := zchkX [(94, 15)] zprog2 (zovW [zyx86d, zyx92d]) 100000 kX8_sum [zyx87q, zyx81q, zyx75q, zyx69q, zyx63q, zyx57q, zyx51q] [zyx93q] [zyx93q]
noncomputable def zyx93d : zKw := (284, 5, 34, 4140, zyx93a, zyh269, [(zyx93r, zyh270)])
noncomputable def zbzyx93e : Bool := zrunw zprog2 (zovW [zyx86d, zyx92d]) 100000 (zcutW [(94, 15)] none ((zyx93r, zyh270), 34, 4140) [zyx93q, zyx87q, zyx81q, zyx75q, zyx69q, zyx63q, zyx57q, zyx51q]) 34 4140 kX8_sum (zkin zyx93r zyh270) 0 (zargs 0 zyx93a, [], (zyh269.1, zyh269.2.1, 0), 0, 0)
/-! X8_heldBy -/
noncomputable def zyx94a : List zAV := [.inr (.inr (.inl 94)), .inl ((.ofNat 1, .ofNat 4), none)]
def zyx94r : Option zAV := some (.inl ((.negSucc 2147483647, .ofNat 2147483647), none))
noncomputable def zyx94p : List zPw := []
noncomputable def zyx94d : zKw := (229, 3, 35, 4260, zyx94a, zyh269, [(zyx94r, zyh270)])
noncomputable def zbzyx94e : Bool := zrunw zprog2 (zovW [zyx87d, zyx93d, zyx41d]) 100000 (zcutW [] none ((zyx94r, zyh270), 35, 4260) zyx94p) 35 4260 kX8_heldBy (zkin zyx94r zyh270) 0 (zargs 0 zyx94a, [], (zyh269.1, zyh269.2.1, 0), 0, 0)
/-! X8_oneOf -/
noncomputable def zyx95a : List zAV := [zyv320, zyv362, zyv363]
noncomputable def zyx95q : List (Option zAV × zH) := [(some (.inl ((.ofNat 0, .ofNat 0), none)), zyh299), (some (.inl ((.negSucc 175, .ofNat 79), none)), zyh268)]
noncomputable def zyx95d : zKw := (260, 3, 4, 480, zyx95a, zyh266, zyx95q)
noncomputable def zbzyx95e : Bool := zrunw zprog2 (zovW []) 100000 zcut0 4 480 kX8_oneOf (zkinL zyx95q) 0 (zargs 0 zyx95a, [], (zyh266.1, zyh266.2.1, 0), 0, 0)
/-! X8_number -/
noncomputable def zyx96a : List zAV := [.inr (.inr (.inl 94)), .inl ((.ofNat 3, .ofNat 3), none)]
def zyx96r : Option zAV := some (.inl ((.negSucc 2147483647, .ofNat 2147483647), none))
noncomputable def zyx96p : List zPw := [((11, ([(0, .inr (.inr (.inl 94))), (1, .inl ((.ofNat 3, .ofNat 3), some (1, .ofNat 0))), (2, .inl ((.negSucc 2147483647, .ofNat 2147483647), some (2, .ofNat 0))), (3, .inl ((.ofNat 1, .ofNat 3), some (3, .ofNat 0)))], [], zyh267, 0, 0), [(3, .negSucc 1)], .ofNat 7), (zyx96r, zyh267), 5, 600)]
noncomputable def zyx96d : zKw := (259, 4, 5, 600, zyx96a, zyh266, [(zyx96r, zyh267)])
noncomputable def zbzyx96c : Bool := zchkX [] zprog2 (zovW [zyx95d]) 100000 kX8_number [] zyx96p zyx96p
noncomputable def zbzyx96e : Bool := zrunw zprog2 (zovW [zyx95d]) 100000 (zcutW [] none ((zyx96r, zyh267), 5, 600) zyx96p) 5 600 kX8_number (zkin zyx96r zyh267) 0 (zargs 0 zyx96a, [], (zyh266.1, zyh266.2.1, 0), 0, 0)
/-! X8_thing -/
noncomputable def zyx97a : List zAV := [.inr (.inr (.inl 94)), .inl ((.ofNat 0, .ofNat 4), none)]
def zyx97r : Option zAV := some (.inl ((.negSucc 2147483647, .ofNat 2147483647), none))
noncomputable def zyx97p : List zPw := []
noncomputable def zyx97d : zKw := (292, 4, 36, 4380, zyx97a, zyh266, [(zyx97r, zyh267)])
noncomputable def zbzyx97e : Bool := zrunw zprog2 (zovW [zyx94d, zyx91d, zyx41d, zyx96d, zyx40d]) 100000 (zcutW [] none ((zyx97r, zyh267), 36, 4380) zyx97p) 36 4380 k2X8_thing (zkin zyx97r zyh267) 0 (zargs 0 zyx97a, [], (zyh266.1, zyh266.2.1, 0), 0, 0)
/-! X8_product ((('r', 99), 40, 32),) -/
noncomputable def zyx98a : List zAV := [.inr (.inr (.inl 94)), .inl ((.ofNat 0, .ofNat 4), none)]
def zyx98r : Option zAV := some (.inl ((.negSucc 2147483647, .ofNat 2147483647), none))
noncomputable def zyx98q : zPw := ((6, ([(0, .inr (.inr (.inl 94))), (1, .inl ((.ofNat 0, .ofNat 4), some (1, .ofNat 0))), (2, .inl ((.negSucc 2147483647, .ofNat 2147483647), some (2, .ofNat 0)))], [], zyh267, 0, 0), [], 0), (zyx98r, zyh267), 37, 4500)
noncomputable def zbzyx98c : Bool := zchkX [(94, 15)] zprog2 (zovW [zyx91d, zyx97d]) 100000 k2X8_product [zyx92q, zyx86q, zyx80q, zyx74q, zyx68q, zyx62q, zyx56q, zyx50q] [zyx98q] [zyx98q]
noncomputable def zyx98d : zKw := (265, 5, 37, 4500, zyx98a, zyh266, [(zyx98r, zyh267)])
noncomputable def zbzyx98e : Bool := zrunw zprog2 (zovW [zyx91d, zyx97d]) 100000 (zcutW [(94, 15)] none ((zyx98r, zyh267), 37, 4500) [zyx98q, zyx92q, zyx86q, zyx80q, zyx74q, zyx68q, zyx62q, zyx56q, zyx50q]) 37 4500 k2X8_product (zkin zyx98r zyh267) 0 (zargs 0 zyx98a, [], (zyh266.1, zyh266.2.1, 0), 0, 0)
/-! X8_sum ((('r', 99), 40, 32),) -/
noncomputable def zyx99a : List zAV := [.inr (.inr (.inl 94)), .inl ((.ofNat 1, .ofNat 4), none)]
def zyx99r : Option zAV := some (.inl ((.negSucc 2147483647, .ofNat 2147483647), none))
noncomputable def zyx99q : zPw := ((6, ([(0, .inr (.inr (.inl 94))), (1, .inl ((.ofNat 0, .ofNat 4), some (1, .ofNat 0))), (2, .inl ((.negSucc 2147483647, .ofNat 2147483647), some (2, .ofNat 0)))], [], zyh267, 0, 0), [], 0), (zyx99r, zyh267), 38, 4620)
noncomputable def zbzyx99c : Bool := zchkX [(94, 15)] zprog2 (zovW [zyx92d, zyx98d]) 100000 kX8_sum [zyx93q, zyx87q, zyx81q, zyx75q, zyx69q, zyx63q, zyx57q, zyx51q] [zyx99q] [zyx99q]
noncomputable def zyx99d : zKw := (284, 5, 38, 4620, zyx99a, zyh266, [(zyx99r, zyh267)])
noncomputable def zbzyx99e : Bool := zrunw zprog2 (zovW [zyx92d, zyx98d]) 100000 (zcutW [(94, 15)] none ((zyx99r, zyh267), 38, 4620) [zyx99q, zyx93q, zyx87q, zyx81q, zyx75q, zyx69q, zyx63q, zyx57q, zyx51q]) 38 4620 kX8_sum (zkin zyx99r zyh267) 0 (zargs 0 zyx99a, [], (zyh266.1, zyh266.2.1, 0), 0, 0)
/-! X8_heldBy -/
noncomputable def zyx100a : List zAV := [.inr (.inr (.inl 94)), .inl ((.ofNat 1, .ofNat 4), none)]
def zyx100r : Option zAV := some (.inl ((.negSucc 2147483647, .ofNat 2147483647), none))
noncomputable def zyx100p : List zPw := []
noncomputable def zyx100d : zKw := (229, 3, 39, 4740, zyx100a, zyh266, [(zyx100r, zyh267)])
noncomputable def zbzyx100e : Bool := zrunw zprog2 (zovW [zyx93d, zyx99d, zyx40d]) 100000 (zcutW [] none ((zyx100r, zyh267), 39, 4740) zyx100p) 39 4740 kX8_heldBy (zkin zyx100r zyh267) 0 (zargs 0 zyx100a, [], (zyh266.1, zyh266.2.1, 0), 0, 0)
/-! X8_oneOf -/
noncomputable def zyx101a : List zAV := [zyv320, zyv362, zyv363]
noncomputable def zyx101q : List (Option zAV × zH) := [(some (.inl ((.ofNat 0, .ofNat 0), none)), zyh300), (some (.inl ((.negSucc 175, .ofNat 79), none)), zyh265)]
noncomputable def zyx101d : zKw := (260, 3, 4, 480, zyx101a, zyh263, zyx101q)
noncomputable def zbzyx101e : Bool := zrunw zprog2 (zovW []) 100000 zcut0 4 480 kX8_oneOf (zkinL zyx101q) 0 (zargs 0 zyx101a, [], (zyh263.1, zyh263.2.1, 0), 0, 0)
/-! X8_number -/
noncomputable def zyx102a : List zAV := [.inr (.inr (.inl 94)), .inl ((.ofNat 3, .ofNat 3), none)]
def zyx102r : Option zAV := some (.inl ((.negSucc 2147483647, .ofNat 2147483647), none))
noncomputable def zyx102p : List zPw := [((11, ([(0, .inr (.inr (.inl 94))), (1, .inl ((.ofNat 3, .ofNat 3), some (1, .ofNat 0))), (2, .inl ((.negSucc 2147483647, .ofNat 2147483647), some (2, .ofNat 0))), (3, .inl ((.ofNat 1, .ofNat 3), some (3, .ofNat 0)))], [], zyh264, 0, 0), [(3, .negSucc 1)], .ofNat 7), (zyx102r, zyh264), 5, 600)]
noncomputable def zyx102d : zKw := (259, 4, 5, 600, zyx102a, zyh263, [(zyx102r, zyh264)])
noncomputable def zbzyx102c : Bool := zchkX [] zprog2 (zovW [zyx101d]) 100000 kX8_number [] zyx102p zyx102p
noncomputable def zbzyx102e : Bool := zrunw zprog2 (zovW [zyx101d]) 100000 (zcutW [] none ((zyx102r, zyh264), 5, 600) zyx102p) 5 600 kX8_number (zkin zyx102r zyh264) 0 (zargs 0 zyx102a, [], (zyh263.1, zyh263.2.1, 0), 0, 0)
/-! X8_thing -/
noncomputable def zyx103a : List zAV := [.inr (.inr (.inl 94)), .inl ((.ofNat 0, .ofNat 4), none)]
def zyx103r : Option zAV := some (.inl ((.negSucc 2147483647, .ofNat 2147483647), none))
noncomputable def zyx103p : List zPw := []
noncomputable def zyx103d : zKw := (292, 4, 40, 4860, zyx103a, zyh263, [(zyx103r, zyh264)])
noncomputable def zbzyx103e : Bool := zrunw zprog2 (zovW [zyx100d, zyx97d, zyx40d, zyx102d, zyx39d]) 100000 (zcutW [] none ((zyx103r, zyh264), 40, 4860) zyx103p) 40 4860 k2X8_thing (zkin zyx103r zyh264) 0 (zargs 0 zyx103a, [], (zyh263.1, zyh263.2.1, 0), 0, 0)
/-! X8_product ((('r', 99), 40, 31),) -/
noncomputable def zyx104a : List zAV := [.inr (.inr (.inl 94)), .inl ((.ofNat 0, .ofNat 4), none)]
def zyx104r : Option zAV := some (.inl ((.negSucc 2147483647, .ofNat 2147483647), none))
noncomputable def zyx104q : zPw := ((6, ([(0, .inr (.inr (.inl 94))), (1, .inl ((.ofNat 0, .ofNat 4), some (1, .ofNat 0))), (2, .inl ((.negSucc 2147483647, .ofNat 2147483647), some (2, .ofNat 0)))], [], zyh264, 0, 0), [], 0), (zyx104r, zyh264), 41, 4980)
noncomputable def zbzyx104c : Bool := zchkX [(94, 15)] zprog2 (zovW [zyx97d, zyx103d]) 100000 k2X8_product [zyx98q, zyx92q, zyx86q, zyx80q, zyx74q, zyx68q, zyx62q, zyx56q, zyx50q] [zyx104q] [zyx104q]
noncomputable def zyx104d : zKw := (265, 5, 41, 4980, zyx104a, zyh263, [(zyx104r, zyh264)])
noncomputable def zbzyx104e : Bool := zrunw zprog2 (zovW [zyx97d, zyx103d]) 100000 (zcutW [(94, 15)] none ((zyx104r, zyh264), 41, 4980) [zyx104q, zyx98q, zyx92q, zyx86q, zyx80q, zyx74q, zyx68q, zyx62q, zyx56q, zyx50q]) 41 4980 k2X8_product (zkin zyx104r zyh264) 0 (zargs 0 zyx104a, [], (zyh263.1, zyh263.2.1, 0), 0, 0)
noncomputable def zyg2 : List Bool := [zbzyx9e, zbzyx10e, zbzyx11e, zbzyx12e, zbzyx13e, zbzyx14e, zbzyx15e, zbzyx16e, zbzyx17e, zbzyx18e, zbzyx19e, zbzyx20e, zbzyx21e, zbzyx22e, zbzyx23e, zbzyx24e, zbzyx25e, zbzyx26e, zbzyx27e, zbzyx28e, zbzyx29e, zbzyx30e, zbzyx31e, zbzyx32e, zbzyx33e, zbzyx34e, zbzyx35e, zbzyx36e, zbzyx37e, zbzyx38e, zbzyx39e, zbzyx40e, zbzyx41e, zbzyx42e, zbzyx43e, zbzyx44e, zbzyx45e, zbzyx46e, zbzyx47e, zbzyx48e, zbzyx49e, zbzyx50c, zbzyx50e, zbzyx51c, zbzyx51e, zbzyx52e, zbzyx53e, zbzyx54c, zbzyx54e, zbzyx55e, zbzyx56c, zbzyx56e, zbzyx57c, zbzyx57e, zbzyx58e, zbzyx59e, zbzyx60c, zbzyx60e, zbzyx61e, zbzyx62c, zbzyx62e, zbzyx63c, zbzyx63e, zbzyx64e, zbzyx65e, zbzyx66c, zbzyx66e, zbzyx67e, zbzyx68c, zbzyx68e, zbzyx69c, zbzyx69e, zbzyx70e, zbzyx71e, zbzyx72c, zbzyx72e, zbzyx73e, zbzyx74c, zbzyx74e, zbzyx75c, zbzyx75e, zbzyx76e, zbzyx77e, zbzyx78c, zbzyx78e, zbzyx79e, zbzyx80c, zbzyx80e, zbzyx81c, zbzyx81e, zbzyx82e, zbzyx83e, zbzyx84c, zbzyx84e, zbzyx85e, zbzyx86c, zbzyx86e, zbzyx87c, zbzyx87e, zbzyx88e, zbzyx89e, zbzyx90c, zbzyx90e, zbzyx91e, zbzyx92c, zbzyx92e, zbzyx93c, zbzyx93e, zbzyx94e, zbzyx95e, zbzyx96c, zbzyx96e, zbzyx97e, zbzyx98c, zbzyx98e, zbzyx99c, zbzyx99e, zbzyx100e, zbzyx101e, zbzyx102c, zbzyx102e, zbzyx103e, zbzyx104c, zbzyx104e]
set_option maxRecDepth 100000 in
theorem zyg2_ok : zall (fun b => b) zyg2 = true := by decide +kernel
theorem zyx9e : zrunw zprog2 (zovW []) 100000 zcut0 3 420 kX8_passes (zkinL zyx9q) 0 (zargs 0 zyx9a, [], (zyh173.1, zyh173.2.1, 0), 0, 0) = true := zall_ok zyg2_ok (k := 0) (a := zbzyx9e) rfl
theorem zyx9 {l : Launch} {D : va_G} {tys : List (ClassId × FieldType)} {o : zO} {z : Nat} (E : zEnv tys) : zKnW l D vwCl tys o z (zXX o z) zTs zprog2 zyx9d :=
  zkn_ml E (fun g => fun _ h => absurd h List.not_mem_nil) (show zget zprog2 263 = some mX8_passes from rfl) rfl (by decide) (by decide) (by decide) (by decide) zyx9e
theorem zyx10e : zrunw zprog2 (zovW []) 100000 zcut0 3 420 kX8_passes (zkinL zyx10q) 0 (zargs 0 zyx10a, [], (zyh176.1, zyh176.2.1, 0), 0, 0) = true := zall_ok zyg2_ok (k := 1) (a := zbzyx10e) rfl
theorem zyx10 {l : Launch} {D : va_G} {tys : List (ClassId × FieldType)} {o : zO} {z : Nat} (E : zEnv tys) : zKnW l D vwCl tys o z (zXX o z) zTs zprog2 zyx10d :=
  zkn_ml E (fun g => fun _ h => absurd h List.not_mem_nil) (show zget zprog2 263 = some mX8_passes from rfl) rfl (by decide) (by decide) (by decide) (by decide) zyx10e
theorem zyx11e : zrunw zprog2 (zovW []) 100000 zcut0 3 420 kX8_passes (zkinL zyx11q) 0 (zargs 0 zyx11a, [], (zyh179.1, zyh179.2.1, 0), 0, 0) = true := zall_ok zyg2_ok (k := 2) (a := zbzyx11e) rfl
theorem zyx11 {l : Launch} {D : va_G} {tys : List (ClassId × FieldType)} {o : zO} {z : Nat} (E : zEnv tys) : zKnW l D vwCl tys o z (zXX o z) zTs zprog2 zyx11d :=
  zkn_ml E (fun g => fun _ h => absurd h List.not_mem_nil) (show zget zprog2 263 = some mX8_passes from rfl) rfl (by decide) (by decide) (by decide) (by decide) zyx11e
theorem zyx12e : zrunw zprog2 (zovW []) 100000 zcut0 3 420 kX8_passes (zkinL zyx12q) 0 (zargs 0 zyx12a, [], (zyh182.1, zyh182.2.1, 0), 0, 0) = true := zall_ok zyg2_ok (k := 3) (a := zbzyx12e) rfl
theorem zyx12 {l : Launch} {D : va_G} {tys : List (ClassId × FieldType)} {o : zO} {z : Nat} (E : zEnv tys) : zKnW l D vwCl tys o z (zXX o z) zTs zprog2 zyx12d :=
  zkn_ml E (fun g => fun _ h => absurd h List.not_mem_nil) (show zget zprog2 263 = some mX8_passes from rfl) rfl (by decide) (by decide) (by decide) (by decide) zyx12e
theorem zyx13e : zrunw zprog2 (zovW []) 100000 zcut0 3 420 kX8_passes (zkinL zyx13q) 0 (zargs 0 zyx13a, [], (zyh185.1, zyh185.2.1, 0), 0, 0) = true := zall_ok zyg2_ok (k := 4) (a := zbzyx13e) rfl
theorem zyx13 {l : Launch} {D : va_G} {tys : List (ClassId × FieldType)} {o : zO} {z : Nat} (E : zEnv tys) : zKnW l D vwCl tys o z (zXX o z) zTs zprog2 zyx13d :=
  zkn_ml E (fun g => fun _ h => absurd h List.not_mem_nil) (show zget zprog2 263 = some mX8_passes from rfl) rfl (by decide) (by decide) (by decide) (by decide) zyx13e
theorem zyx14e : zrunw zprog2 (zovW []) 100000 zcut0 3 420 kX8_passes (zkinL zyx14q) 0 (zargs 0 zyx14a, [], (zyh188.1, zyh188.2.1, 0), 0, 0) = true := zall_ok zyg2_ok (k := 5) (a := zbzyx14e) rfl
theorem zyx14 {l : Launch} {D : va_G} {tys : List (ClassId × FieldType)} {o : zO} {z : Nat} (E : zEnv tys) : zKnW l D vwCl tys o z (zXX o z) zTs zprog2 zyx14d :=
  zkn_ml E (fun g => fun _ h => absurd h List.not_mem_nil) (show zget zprog2 263 = some mX8_passes from rfl) rfl (by decide) (by decide) (by decide) (by decide) zyx14e
theorem zyx15e : zrunw zprog2 (zovW []) 100000 zcut0 3 420 kX8_passes (zkinL zyx15q) 0 (zargs 0 zyx15a, [], (zyh191.1, zyh191.2.1, 0), 0, 0) = true := zall_ok zyg2_ok (k := 6) (a := zbzyx15e) rfl
theorem zyx15 {l : Launch} {D : va_G} {tys : List (ClassId × FieldType)} {o : zO} {z : Nat} (E : zEnv tys) : zKnW l D vwCl tys o z (zXX o z) zTs zprog2 zyx15d :=
  zkn_ml E (fun g => fun _ h => absurd h List.not_mem_nil) (show zget zprog2 263 = some mX8_passes from rfl) rfl (by decide) (by decide) (by decide) (by decide) zyx15e
theorem zyx16e : zrunw zprog2 (zovW []) 100000 zcut0 3 420 kX8_passes (zkinL zyx16q) 0 (zargs 0 zyx16a, [], (zyh194.1, zyh194.2.1, 0), 0, 0) = true := zall_ok zyg2_ok (k := 7) (a := zbzyx16e) rfl
theorem zyx16 {l : Launch} {D : va_G} {tys : List (ClassId × FieldType)} {o : zO} {z : Nat} (E : zEnv tys) : zKnW l D vwCl tys o z (zXX o z) zTs zprog2 zyx16d :=
  zkn_ml E (fun g => fun _ h => absurd h List.not_mem_nil) (show zget zprog2 263 = some mX8_passes from rfl) rfl (by decide) (by decide) (by decide) (by decide) zyx16e
theorem zyx17e : zrunw zprog2 (zovW []) 100000 zcut0 3 420 kX8_passes (zkinL zyx17q) 0 (zargs 0 zyx17a, [], (zyh197.1, zyh197.2.1, 0), 0, 0) = true := zall_ok zyg2_ok (k := 8) (a := zbzyx17e) rfl
theorem zyx17 {l : Launch} {D : va_G} {tys : List (ClassId × FieldType)} {o : zO} {z : Nat} (E : zEnv tys) : zKnW l D vwCl tys o z (zXX o z) zTs zprog2 zyx17d :=
  zkn_ml E (fun g => fun _ h => absurd h List.not_mem_nil) (show zget zprog2 263 = some mX8_passes from rfl) rfl (by decide) (by decide) (by decide) (by decide) zyx17e
theorem zyx18e : zrunw zprog2 (zovW []) 100000 zcut0 3 420 kX8_passes (zkinL zyx18q) 0 (zargs 0 zyx18a, [], (zyh200.1, zyh200.2.1, 0), 0, 0) = true := zall_ok zyg2_ok (k := 9) (a := zbzyx18e) rfl
theorem zyx18 {l : Launch} {D : va_G} {tys : List (ClassId × FieldType)} {o : zO} {z : Nat} (E : zEnv tys) : zKnW l D vwCl tys o z (zXX o z) zTs zprog2 zyx18d :=
  zkn_ml E (fun g => fun _ h => absurd h List.not_mem_nil) (show zget zprog2 263 = some mX8_passes from rfl) rfl (by decide) (by decide) (by decide) (by decide) zyx18e
theorem zyx19e : zrunw zprog2 (zovW []) 100000 zcut0 3 420 kX8_passes (zkinL zyx19q) 0 (zargs 0 zyx19a, [], (zyh203.1, zyh203.2.1, 0), 0, 0) = true := zall_ok zyg2_ok (k := 10) (a := zbzyx19e) rfl
theorem zyx19 {l : Launch} {D : va_G} {tys : List (ClassId × FieldType)} {o : zO} {z : Nat} (E : zEnv tys) : zKnW l D vwCl tys o z (zXX o z) zTs zprog2 zyx19d :=
  zkn_ml E (fun g => fun _ h => absurd h List.not_mem_nil) (show zget zprog2 263 = some mX8_passes from rfl) rfl (by decide) (by decide) (by decide) (by decide) zyx19e
theorem zyx20e : zrunw zprog2 (zovW []) 100000 zcut0 3 420 kX8_passes (zkinL zyx20q) 0 (zargs 0 zyx20a, [], (zyh206.1, zyh206.2.1, 0), 0, 0) = true := zall_ok zyg2_ok (k := 11) (a := zbzyx20e) rfl
theorem zyx20 {l : Launch} {D : va_G} {tys : List (ClassId × FieldType)} {o : zO} {z : Nat} (E : zEnv tys) : zKnW l D vwCl tys o z (zXX o z) zTs zprog2 zyx20d :=
  zkn_ml E (fun g => fun _ h => absurd h List.not_mem_nil) (show zget zprog2 263 = some mX8_passes from rfl) rfl (by decide) (by decide) (by decide) (by decide) zyx20e
theorem zyx21e : zrunw zprog2 (zovW []) 100000 zcut0 3 420 kX8_passes (zkinL zyx21q) 0 (zargs 0 zyx21a, [], (zyh209.1, zyh209.2.1, 0), 0, 0) = true := zall_ok zyg2_ok (k := 12) (a := zbzyx21e) rfl
theorem zyx21 {l : Launch} {D : va_G} {tys : List (ClassId × FieldType)} {o : zO} {z : Nat} (E : zEnv tys) : zKnW l D vwCl tys o z (zXX o z) zTs zprog2 zyx21d :=
  zkn_ml E (fun g => fun _ h => absurd h List.not_mem_nil) (show zget zprog2 263 = some mX8_passes from rfl) rfl (by decide) (by decide) (by decide) (by decide) zyx21e
theorem zyx22e : zrunw zprog2 (zovW []) 100000 zcut0 3 420 kX8_passes (zkinL zyx22q) 0 (zargs 0 zyx22a, [], (zyh212.1, zyh212.2.1, 0), 0, 0) = true := zall_ok zyg2_ok (k := 13) (a := zbzyx22e) rfl
theorem zyx22 {l : Launch} {D : va_G} {tys : List (ClassId × FieldType)} {o : zO} {z : Nat} (E : zEnv tys) : zKnW l D vwCl tys o z (zXX o z) zTs zprog2 zyx22d :=
  zkn_ml E (fun g => fun _ h => absurd h List.not_mem_nil) (show zget zprog2 263 = some mX8_passes from rfl) rfl (by decide) (by decide) (by decide) (by decide) zyx22e
theorem zyx23e : zrunw zprog2 (zovW []) 100000 zcut0 3 420 kX8_passes (zkinL zyx23q) 0 (zargs 0 zyx23a, [], (zyh215.1, zyh215.2.1, 0), 0, 0) = true := zall_ok zyg2_ok (k := 14) (a := zbzyx23e) rfl
theorem zyx23 {l : Launch} {D : va_G} {tys : List (ClassId × FieldType)} {o : zO} {z : Nat} (E : zEnv tys) : zKnW l D vwCl tys o z (zXX o z) zTs zprog2 zyx23d :=
  zkn_ml E (fun g => fun _ h => absurd h List.not_mem_nil) (show zget zprog2 263 = some mX8_passes from rfl) rfl (by decide) (by decide) (by decide) (by decide) zyx23e
theorem zyx24e : zrunw zprog2 (zovW []) 100000 zcut0 3 420 kX8_passes (zkinL zyx24q) 0 (zargs 0 zyx24a, [], (zyh218.1, zyh218.2.1, 0), 0, 0) = true := zall_ok zyg2_ok (k := 15) (a := zbzyx24e) rfl
theorem zyx24 {l : Launch} {D : va_G} {tys : List (ClassId × FieldType)} {o : zO} {z : Nat} (E : zEnv tys) : zKnW l D vwCl tys o z (zXX o z) zTs zprog2 zyx24d :=
  zkn_ml E (fun g => fun _ h => absurd h List.not_mem_nil) (show zget zprog2 263 = some mX8_passes from rfl) rfl (by decide) (by decide) (by decide) (by decide) zyx24e
theorem zyx25e : zrunw zprog2 (zovW []) 100000 zcut0 3 420 kX8_passes (zkinL zyx25q) 0 (zargs 0 zyx25a, [], (zyh221.1, zyh221.2.1, 0), 0, 0) = true := zall_ok zyg2_ok (k := 16) (a := zbzyx25e) rfl
theorem zyx25 {l : Launch} {D : va_G} {tys : List (ClassId × FieldType)} {o : zO} {z : Nat} (E : zEnv tys) : zKnW l D vwCl tys o z (zXX o z) zTs zprog2 zyx25d :=
  zkn_ml E (fun g => fun _ h => absurd h List.not_mem_nil) (show zget zprog2 263 = some mX8_passes from rfl) rfl (by decide) (by decide) (by decide) (by decide) zyx25e
theorem zyx26e : zrunw zprog2 (zovW []) 100000 zcut0 3 420 kX8_passes (zkinL zyx26q) 0 (zargs 0 zyx26a, [], (zyh224.1, zyh224.2.1, 0), 0, 0) = true := zall_ok zyg2_ok (k := 17) (a := zbzyx26e) rfl
theorem zyx26 {l : Launch} {D : va_G} {tys : List (ClassId × FieldType)} {o : zO} {z : Nat} (E : zEnv tys) : zKnW l D vwCl tys o z (zXX o z) zTs zprog2 zyx26d :=
  zkn_ml E (fun g => fun _ h => absurd h List.not_mem_nil) (show zget zprog2 263 = some mX8_passes from rfl) rfl (by decide) (by decide) (by decide) (by decide) zyx26e
theorem zyx27e : zrunw zprog2 (zovW []) 100000 zcut0 3 420 kX8_passes (zkinL zyx27q) 0 (zargs 0 zyx27a, [], (zyh227.1, zyh227.2.1, 0), 0, 0) = true := zall_ok zyg2_ok (k := 18) (a := zbzyx27e) rfl
theorem zyx27 {l : Launch} {D : va_G} {tys : List (ClassId × FieldType)} {o : zO} {z : Nat} (E : zEnv tys) : zKnW l D vwCl tys o z (zXX o z) zTs zprog2 zyx27d :=
  zkn_ml E (fun g => fun _ h => absurd h List.not_mem_nil) (show zget zprog2 263 = some mX8_passes from rfl) rfl (by decide) (by decide) (by decide) (by decide) zyx27e
theorem zyx28e : zrunw zprog2 (zovW []) 100000 zcut0 3 420 kX8_passes (zkinL zyx28q) 0 (zargs 0 zyx28a, [], (zyh230.1, zyh230.2.1, 0), 0, 0) = true := zall_ok zyg2_ok (k := 19) (a := zbzyx28e) rfl
theorem zyx28 {l : Launch} {D : va_G} {tys : List (ClassId × FieldType)} {o : zO} {z : Nat} (E : zEnv tys) : zKnW l D vwCl tys o z (zXX o z) zTs zprog2 zyx28d :=
  zkn_ml E (fun g => fun _ h => absurd h List.not_mem_nil) (show zget zprog2 263 = some mX8_passes from rfl) rfl (by decide) (by decide) (by decide) (by decide) zyx28e
theorem zyx29e : zrunw zprog2 (zovW []) 100000 zcut0 3 420 kX8_passes (zkinL zyx29q) 0 (zargs 0 zyx29a, [], (zyh233.1, zyh233.2.1, 0), 0, 0) = true := zall_ok zyg2_ok (k := 20) (a := zbzyx29e) rfl
theorem zyx29 {l : Launch} {D : va_G} {tys : List (ClassId × FieldType)} {o : zO} {z : Nat} (E : zEnv tys) : zKnW l D vwCl tys o z (zXX o z) zTs zprog2 zyx29d :=
  zkn_ml E (fun g => fun _ h => absurd h List.not_mem_nil) (show zget zprog2 263 = some mX8_passes from rfl) rfl (by decide) (by decide) (by decide) (by decide) zyx29e
theorem zyx30e : zrunw zprog2 (zovW []) 100000 zcut0 3 420 kX8_passes (zkinL zyx30q) 0 (zargs 0 zyx30a, [], (zyh236.1, zyh236.2.1, 0), 0, 0) = true := zall_ok zyg2_ok (k := 21) (a := zbzyx30e) rfl
theorem zyx30 {l : Launch} {D : va_G} {tys : List (ClassId × FieldType)} {o : zO} {z : Nat} (E : zEnv tys) : zKnW l D vwCl tys o z (zXX o z) zTs zprog2 zyx30d :=
  zkn_ml E (fun g => fun _ h => absurd h List.not_mem_nil) (show zget zprog2 263 = some mX8_passes from rfl) rfl (by decide) (by decide) (by decide) (by decide) zyx30e
theorem zyx31e : zrunw zprog2 (zovW []) 100000 zcut0 3 420 kX8_passes (zkinL zyx31q) 0 (zargs 0 zyx31a, [], (zyh239.1, zyh239.2.1, 0), 0, 0) = true := zall_ok zyg2_ok (k := 22) (a := zbzyx31e) rfl
theorem zyx31 {l : Launch} {D : va_G} {tys : List (ClassId × FieldType)} {o : zO} {z : Nat} (E : zEnv tys) : zKnW l D vwCl tys o z (zXX o z) zTs zprog2 zyx31d :=
  zkn_ml E (fun g => fun _ h => absurd h List.not_mem_nil) (show zget zprog2 263 = some mX8_passes from rfl) rfl (by decide) (by decide) (by decide) (by decide) zyx31e
theorem zyx32e : zrunw zprog2 (zovW []) 100000 zcut0 3 420 kX8_passes (zkinL zyx32q) 0 (zargs 0 zyx32a, [], (zyh242.1, zyh242.2.1, 0), 0, 0) = true := zall_ok zyg2_ok (k := 23) (a := zbzyx32e) rfl
theorem zyx32 {l : Launch} {D : va_G} {tys : List (ClassId × FieldType)} {o : zO} {z : Nat} (E : zEnv tys) : zKnW l D vwCl tys o z (zXX o z) zTs zprog2 zyx32d :=
  zkn_ml E (fun g => fun _ h => absurd h List.not_mem_nil) (show zget zprog2 263 = some mX8_passes from rfl) rfl (by decide) (by decide) (by decide) (by decide) zyx32e
theorem zyx33e : zrunw zprog2 (zovW []) 100000 zcut0 3 420 kX8_passes (zkinL zyx33q) 0 (zargs 0 zyx33a, [], (zyh245.1, zyh245.2.1, 0), 0, 0) = true := zall_ok zyg2_ok (k := 24) (a := zbzyx33e) rfl
theorem zyx33 {l : Launch} {D : va_G} {tys : List (ClassId × FieldType)} {o : zO} {z : Nat} (E : zEnv tys) : zKnW l D vwCl tys o z (zXX o z) zTs zprog2 zyx33d :=
  zkn_ml E (fun g => fun _ h => absurd h List.not_mem_nil) (show zget zprog2 263 = some mX8_passes from rfl) rfl (by decide) (by decide) (by decide) (by decide) zyx33e
theorem zyx34e : zrunw zprog2 (zovW []) 100000 zcut0 3 420 kX8_passes (zkinL zyx34q) 0 (zargs 0 zyx34a, [], (zyh248.1, zyh248.2.1, 0), 0, 0) = true := zall_ok zyg2_ok (k := 25) (a := zbzyx34e) rfl
theorem zyx34 {l : Launch} {D : va_G} {tys : List (ClassId × FieldType)} {o : zO} {z : Nat} (E : zEnv tys) : zKnW l D vwCl tys o z (zXX o z) zTs zprog2 zyx34d :=
  zkn_ml E (fun g => fun _ h => absurd h List.not_mem_nil) (show zget zprog2 263 = some mX8_passes from rfl) rfl (by decide) (by decide) (by decide) (by decide) zyx34e
theorem zyx35e : zrunw zprog2 (zovW []) 100000 zcut0 3 420 kX8_passes (zkinL zyx35q) 0 (zargs 0 zyx35a, [], (zyh251.1, zyh251.2.1, 0), 0, 0) = true := zall_ok zyg2_ok (k := 26) (a := zbzyx35e) rfl
theorem zyx35 {l : Launch} {D : va_G} {tys : List (ClassId × FieldType)} {o : zO} {z : Nat} (E : zEnv tys) : zKnW l D vwCl tys o z (zXX o z) zTs zprog2 zyx35d :=
  zkn_ml E (fun g => fun _ h => absurd h List.not_mem_nil) (show zget zprog2 263 = some mX8_passes from rfl) rfl (by decide) (by decide) (by decide) (by decide) zyx35e
theorem zyx36e : zrunw zprog2 (zovW []) 100000 zcut0 3 420 kX8_passes (zkinL zyx36q) 0 (zargs 0 zyx36a, [], (zyh254.1, zyh254.2.1, 0), 0, 0) = true := zall_ok zyg2_ok (k := 27) (a := zbzyx36e) rfl
theorem zyx36 {l : Launch} {D : va_G} {tys : List (ClassId × FieldType)} {o : zO} {z : Nat} (E : zEnv tys) : zKnW l D vwCl tys o z (zXX o z) zTs zprog2 zyx36d :=
  zkn_ml E (fun g => fun _ h => absurd h List.not_mem_nil) (show zget zprog2 263 = some mX8_passes from rfl) rfl (by decide) (by decide) (by decide) (by decide) zyx36e
theorem zyx37e : zrunw zprog2 (zovW []) 100000 zcut0 3 420 kX8_passes (zkinL zyx37q) 0 (zargs 0 zyx37a, [], (zyh257.1, zyh257.2.1, 0), 0, 0) = true := zall_ok zyg2_ok (k := 28) (a := zbzyx37e) rfl
theorem zyx37 {l : Launch} {D : va_G} {tys : List (ClassId × FieldType)} {o : zO} {z : Nat} (E : zEnv tys) : zKnW l D vwCl tys o z (zXX o z) zTs zprog2 zyx37d :=
  zkn_ml E (fun g => fun _ h => absurd h List.not_mem_nil) (show zget zprog2 263 = some mX8_passes from rfl) rfl (by decide) (by decide) (by decide) (by decide) zyx37e
theorem zyx38e : zrunw zprog2 (zovW []) 100000 zcut0 3 420 kX8_passes (zkinL zyx38q) 0 (zargs 0 zyx38a, [], (zyh260.1, zyh260.2.1, 0), 0, 0) = true := zall_ok zyg2_ok (k := 29) (a := zbzyx38e) rfl
theorem zyx38 {l : Launch} {D : va_G} {tys : List (ClassId × FieldType)} {o : zO} {z : Nat} (E : zEnv tys) : zKnW l D vwCl tys o z (zXX o z) zTs zprog2 zyx38d :=
  zkn_ml E (fun g => fun _ h => absurd h List.not_mem_nil) (show zget zprog2 263 = some mX8_passes from rfl) rfl (by decide) (by decide) (by decide) (by decide) zyx38e
theorem zyx39e : zrunw zprog2 (zovW []) 100000 zcut0 3 420 kX8_passes (zkinL zyx39q) 0 (zargs 0 zyx39a, [], (zyh263.1, zyh263.2.1, 0), 0, 0) = true := zall_ok zyg2_ok (k := 30) (a := zbzyx39e) rfl
theorem zyx39 {l : Launch} {D : va_G} {tys : List (ClassId × FieldType)} {o : zO} {z : Nat} (E : zEnv tys) : zKnW l D vwCl tys o z (zXX o z) zTs zprog2 zyx39d :=
  zkn_ml E (fun g => fun _ h => absurd h List.not_mem_nil) (show zget zprog2 263 = some mX8_passes from rfl) rfl (by decide) (by decide) (by decide) (by decide) zyx39e
theorem zyx40e : zrunw zprog2 (zovW []) 100000 zcut0 3 420 kX8_passes (zkinL zyx40q) 0 (zargs 0 zyx40a, [], (zyh266.1, zyh266.2.1, 0), 0, 0) = true := zall_ok zyg2_ok (k := 31) (a := zbzyx40e) rfl
theorem zyx40 {l : Launch} {D : va_G} {tys : List (ClassId × FieldType)} {o : zO} {z : Nat} (E : zEnv tys) : zKnW l D vwCl tys o z (zXX o z) zTs zprog2 zyx40d :=
  zkn_ml E (fun g => fun _ h => absurd h List.not_mem_nil) (show zget zprog2 263 = some mX8_passes from rfl) rfl (by decide) (by decide) (by decide) (by decide) zyx40e
theorem zyx41e : zrunw zprog2 (zovW []) 100000 zcut0 3 420 kX8_passes (zkinL zyx41q) 0 (zargs 0 zyx41a, [], (zyh269.1, zyh269.2.1, 0), 0, 0) = true := zall_ok zyg2_ok (k := 32) (a := zbzyx41e) rfl
theorem zyx41 {l : Launch} {D : va_G} {tys : List (ClassId × FieldType)} {o : zO} {z : Nat} (E : zEnv tys) : zKnW l D vwCl tys o z (zXX o z) zTs zprog2 zyx41d :=
  zkn_ml E (fun g => fun _ h => absurd h List.not_mem_nil) (show zget zprog2 263 = some mX8_passes from rfl) rfl (by decide) (by decide) (by decide) (by decide) zyx41e
theorem zyx42e : zrunw zprog2 (zovW []) 100000 zcut0 3 420 kX8_passes (zkinL zyx42q) 0 (zargs 0 zyx42a, [], (zyh272.1, zyh272.2.1, 0), 0, 0) = true := zall_ok zyg2_ok (k := 33) (a := zbzyx42e) rfl
theorem zyx42 {l : Launch} {D : va_G} {tys : List (ClassId × FieldType)} {o : zO} {z : Nat} (E : zEnv tys) : zKnW l D vwCl tys o z (zXX o z) zTs zprog2 zyx42d :=
  zkn_ml E (fun g => fun _ h => absurd h List.not_mem_nil) (show zget zprog2 263 = some mX8_passes from rfl) rfl (by decide) (by decide) (by decide) (by decide) zyx42e
theorem zyx43e : zrunw zprog2 (zovW []) 100000 zcut0 3 420 kX8_passes (zkinL zyx43q) 0 (zargs 0 zyx43a, [], (zyh275.1, zyh275.2.1, 0), 0, 0) = true := zall_ok zyg2_ok (k := 34) (a := zbzyx43e) rfl
theorem zyx43 {l : Launch} {D : va_G} {tys : List (ClassId × FieldType)} {o : zO} {z : Nat} (E : zEnv tys) : zKnW l D vwCl tys o z (zXX o z) zTs zprog2 zyx43d :=
  zkn_ml E (fun g => fun _ h => absurd h List.not_mem_nil) (show zget zprog2 263 = some mX8_passes from rfl) rfl (by decide) (by decide) (by decide) (by decide) zyx43e
theorem zyx44e : zrunw zprog2 (zovW []) 100000 zcut0 3 420 kX8_passes (zkinL zyx44q) 0 (zargs 0 zyx44a, [], (zyh278.1, zyh278.2.1, 0), 0, 0) = true := zall_ok zyg2_ok (k := 35) (a := zbzyx44e) rfl
theorem zyx44 {l : Launch} {D : va_G} {tys : List (ClassId × FieldType)} {o : zO} {z : Nat} (E : zEnv tys) : zKnW l D vwCl tys o z (zXX o z) zTs zprog2 zyx44d :=
  zkn_ml E (fun g => fun _ h => absurd h List.not_mem_nil) (show zget zprog2 263 = some mX8_passes from rfl) rfl (by decide) (by decide) (by decide) (by decide) zyx44e
theorem zyx45e : zrunw zprog2 (zovW []) 100000 zcut0 3 420 kX8_passes (zkinL zyx45q) 0 (zargs 0 zyx45a, [], (zyh281.1, zyh281.2.1, 0), 0, 0) = true := zall_ok zyg2_ok (k := 36) (a := zbzyx45e) rfl
theorem zyx45 {l : Launch} {D : va_G} {tys : List (ClassId × FieldType)} {o : zO} {z : Nat} (E : zEnv tys) : zKnW l D vwCl tys o z (zXX o z) zTs zprog2 zyx45d :=
  zkn_ml E (fun g => fun _ h => absurd h List.not_mem_nil) (show zget zprog2 263 = some mX8_passes from rfl) rfl (by decide) (by decide) (by decide) (by decide) zyx45e
theorem zyx46e : zrunw zprog2 (zovW []) 100000 zcut0 3 420 kX8_passes (zkinL zyx46q) 0 (zargs 0 zyx46a, [], (zyh284.1, zyh284.2.1, 0), 0, 0) = true := zall_ok zyg2_ok (k := 37) (a := zbzyx46e) rfl
theorem zyx46 {l : Launch} {D : va_G} {tys : List (ClassId × FieldType)} {o : zO} {z : Nat} (E : zEnv tys) : zKnW l D vwCl tys o z (zXX o z) zTs zprog2 zyx46d :=
  zkn_ml E (fun g => fun _ h => absurd h List.not_mem_nil) (show zget zprog2 263 = some mX8_passes from rfl) rfl (by decide) (by decide) (by decide) (by decide) zyx46e
theorem zyx47e : zrunw zprog2 (zovW []) 100000 zcut0 3 420 kX8_passes (zkinL zyx47q) 0 (zargs 0 zyx47a, [], (zyh287.1, zyh287.2.1, 0), 0, 0) = true := zall_ok zyg2_ok (k := 38) (a := zbzyx47e) rfl
theorem zyx47 {l : Launch} {D : va_G} {tys : List (ClassId × FieldType)} {o : zO} {z : Nat} (E : zEnv tys) : zKnW l D vwCl tys o z (zXX o z) zTs zprog2 zyx47d :=
  zkn_ml E (fun g => fun _ h => absurd h List.not_mem_nil) (show zget zprog2 263 = some mX8_passes from rfl) rfl (by decide) (by decide) (by decide) (by decide) zyx47e
theorem zyx48e : zrunw zprog2 (zovW []) 100000 zcut0 3 420 kX8_passes (zkinL zyx48q) 0 (zargs 0 zyx48a, [], (zyh290.1, zyh290.2.1, 0), 0, 0) = true := zall_ok zyg2_ok (k := 39) (a := zbzyx48e) rfl
theorem zyx48 {l : Launch} {D : va_G} {tys : List (ClassId × FieldType)} {o : zO} {z : Nat} (E : zEnv tys) : zKnW l D vwCl tys o z (zXX o z) zTs zprog2 zyx48d :=
  zkn_ml E (fun g => fun _ h => absurd h List.not_mem_nil) (show zget zprog2 263 = some mX8_passes from rfl) rfl (by decide) (by decide) (by decide) (by decide) zyx48e
theorem zyx49e : zrunw zprog2 (zovW [zyx48d]) 100000 (zcutW [] none ((zyx49r, zyh291), 4, 540) zyx49p) 4 540 k2X8_thing (zkin zyx49r zyh291) 0 (zargs 0 zyx49a, [], (zyh290.1, zyh290.2.1, 0), 0, 0) = true := zall_ok zyg2_ok (k := 40) (a := zbzyx49e) rfl
theorem zyx49 {l : Launch} {D : va_G} {tys : List (ClassId × FieldType)} {o : zO} {z : Nat} (E : zEnv tys) : zKnW l D vwCl tys o z (zXX o z) zTs zprog2 zyx49d :=
  zkn_mk E (fun g => List.forall_mem_cons.mpr ⟨zyx48 (o := zwith o g) E, fun _ h => absurd h List.not_mem_nil⟩) (show zget zprog2 292 = some m2X8_thing from rfl) rfl (by decide) (by decide) (by decide) (by decide) (G := zyx49p) (fun _ h => absurd h List.not_mem_nil) zyx49e
theorem zyx50c : zchkX [(94, 15)] zprog2 (zovW [zyx49d]) 100000 k2X8_product [] [zyx50q] [zyx50q] = true := zall_ok zyg2_ok (k := 41) (a := zbzyx50c) rfl
theorem zyx50k {l : Launch} {D : va_G} {tys : List (ClassId × FieldType)} {o : zO} {z : Nat} (E : zEnv tys) : zPtOk l D vwCl tys o z (zXX o z) zTs m2X8_product zyx50q := zkn_pt E (fun g => List.forall_mem_cons.mpr ⟨zyx49 (o := zwith o g) E, fun _ h => absurd h List.not_mem_nil⟩) (show zget zprog2 265 = some m2X8_product from rfl) (fun _ h => absurd h List.not_mem_nil) zyx50c _ List.mem_cons_self
theorem zyx50e : zrunw zprog2 (zovW [zyx49d]) 100000 (zcutW [(94, 15)] none ((zyx50r, zyh291), 5, 660) [zyx50q]) 5 660 k2X8_product (zkin zyx50r zyh291) 0 (zargs 0 zyx50a, [], (zyh290.1, zyh290.2.1, 0), 0, 0) = true := zall_ok zyg2_ok (k := 42) (a := zbzyx50e) rfl
theorem zyx50 {l : Launch} {D : va_G} {tys : List (ClassId × FieldType)} {o : zO} {z : Nat} (E : zEnv tys) : zKnW l D vwCl tys o z (zXX o z) zTs zprog2 zyx50d :=
  zkn_mk E (fun g => List.forall_mem_cons.mpr ⟨zyx49 (o := zwith o g) E, fun _ h => absurd h List.not_mem_nil⟩) (show zget zprog2 265 = some m2X8_product from rfl) rfl (by decide) (by decide) (by decide) (by decide) (G := [zyx50q]) (List.forall_mem_cons.mpr ⟨zyx50k E, fun _ h => absurd h List.not_mem_nil⟩) zyx50e
theorem zyx51c : zchkX [(94, 15)] zprog2 (zovW [zyx50d]) 100000 kX8_sum [] [zyx51q] [zyx51q] = true := zall_ok zyg2_ok (k := 43) (a := zbzyx51c) rfl
theorem zyx51k {l : Launch} {D : va_G} {tys : List (ClassId × FieldType)} {o : zO} {z : Nat} (E : zEnv tys) : zPtOk l D vwCl tys o z (zXX o z) zTs mX8_sum zyx51q := zkn_pt E (fun g => List.forall_mem_cons.mpr ⟨zyx50 (o := zwith o g) E, fun _ h => absurd h List.not_mem_nil⟩) (show zget zprog2 284 = some mX8_sum from rfl) (fun _ h => absurd h List.not_mem_nil) zyx51c _ List.mem_cons_self
theorem zyx51e : zrunw zprog2 (zovW [zyx50d]) 100000 (zcutW [(94, 15)] none ((zyx51r, zyh291), 6, 780) [zyx51q]) 6 780 kX8_sum (zkin zyx51r zyh291) 0 (zargs 0 zyx51a, [], (zyh290.1, zyh290.2.1, 0), 0, 0) = true := zall_ok zyg2_ok (k := 44) (a := zbzyx51e) rfl
theorem zyx51 {l : Launch} {D : va_G} {tys : List (ClassId × FieldType)} {o : zO} {z : Nat} (E : zEnv tys) : zKnW l D vwCl tys o z (zXX o z) zTs zprog2 zyx51d :=
  zkn_mk E (fun g => List.forall_mem_cons.mpr ⟨zyx50 (o := zwith o g) E, fun _ h => absurd h List.not_mem_nil⟩) (show zget zprog2 284 = some mX8_sum from rfl) rfl (by decide) (by decide) (by decide) (by decide) (G := [zyx51q]) (List.forall_mem_cons.mpr ⟨zyx51k E, fun _ h => absurd h List.not_mem_nil⟩) zyx51e
theorem zyx52e : zrunw zprog2 (zovW [zyx51d, zyx48d]) 100000 (zcutW [] none ((zyx52r, zyh291), 7, 900) zyx52p) 7 900 kX8_heldBy (zkin zyx52r zyh291) 0 (zargs 0 zyx52a, [], (zyh290.1, zyh290.2.1, 0), 0, 0) = true := zall_ok zyg2_ok (k := 45) (a := zbzyx52e) rfl
theorem zyx52 {l : Launch} {D : va_G} {tys : List (ClassId × FieldType)} {o : zO} {z : Nat} (E : zEnv tys) : zKnW l D vwCl tys o z (zXX o z) zTs zprog2 zyx52d :=
  zkn_mk E (fun g => List.forall_mem_cons.mpr ⟨zyx51 (o := zwith o g) E, List.forall_mem_cons.mpr ⟨zyx48 (o := zwith o g) E, fun _ h => absurd h List.not_mem_nil⟩⟩) (show zget zprog2 229 = some mX8_heldBy from rfl) rfl (by decide) (by decide) (by decide) (by decide) (G := zyx52p) (fun _ h => absurd h List.not_mem_nil) zyx52e
theorem zyx53e : zrunw zprog2 (zovW []) 100000 zcut0 4 480 kX8_oneOf (zkinL zyx53q) 0 (zargs 0 zyx53a, [], (zyh287.1, zyh287.2.1, 0), 0, 0) = true := zall_ok zyg2_ok (k := 46) (a := zbzyx53e) rfl
theorem zyx53 {l : Launch} {D : va_G} {tys : List (ClassId × FieldType)} {o : zO} {z : Nat} (E : zEnv tys) : zKnW l D vwCl tys o z (zXX o z) zTs zprog2 zyx53d :=
  zkn_ml E (fun g => fun _ h => absurd h List.not_mem_nil) (show zget zprog2 260 = some mX8_oneOf from rfl) rfl (by decide) (by decide) (by decide) (by decide) zyx53e
theorem zyx54c : zchkX [] zprog2 (zovW [zyx53d]) 100000 kX8_number [] zyx54p zyx54p = true := zall_ok zyg2_ok (k := 47) (a := zbzyx54c) rfl
theorem zyx54e : zrunw zprog2 (zovW [zyx53d]) 100000 (zcutW [] none ((zyx54r, zyh288), 5, 600) zyx54p) 5 600 kX8_number (zkin zyx54r zyh288) 0 (zargs 0 zyx54a, [], (zyh287.1, zyh287.2.1, 0), 0, 0) = true := zall_ok zyg2_ok (k := 48) (a := zbzyx54e) rfl
theorem zyx54 {l : Launch} {D : va_G} {tys : List (ClassId × FieldType)} {o : zO} {z : Nat} (E : zEnv tys) : zKnW l D vwCl tys o z (zXX o z) zTs zprog2 zyx54d :=
  zkn_mk E (fun g => List.forall_mem_cons.mpr ⟨zyx53 (o := zwith o g) E, fun _ h => absurd h List.not_mem_nil⟩) (show zget zprog2 259 = some mX8_number from rfl) rfl (by decide) (by decide) (by decide) (by decide) (G := zyx54p) (zkn_pt E (fun g => List.forall_mem_cons.mpr ⟨zyx53 (o := zwith o g) E, fun _ h => absurd h List.not_mem_nil⟩) (show zget zprog2 259 = some mX8_number from rfl) (fun _ h => absurd h List.not_mem_nil) zyx54c) zyx54e
theorem zyx55e : zrunw zprog2 (zovW [zyx52d, zyx49d, zyx48d, zyx54d, zyx47d]) 100000 (zcutW [] none ((zyx55r, zyh288), 8, 1020) zyx55p) 8 1020 k2X8_thing (zkin zyx55r zyh288) 0 (zargs 0 zyx55a, [], (zyh287.1, zyh287.2.1, 0), 0, 0) = true := zall_ok zyg2_ok (k := 49) (a := zbzyx55e) rfl
theorem zyx55 {l : Launch} {D : va_G} {tys : List (ClassId × FieldType)} {o : zO} {z : Nat} (E : zEnv tys) : zKnW l D vwCl tys o z (zXX o z) zTs zprog2 zyx55d :=
  zkn_mk E (fun g => List.forall_mem_cons.mpr ⟨zyx52 (o := zwith o g) E, List.forall_mem_cons.mpr ⟨zyx49 (o := zwith o g) E, List.forall_mem_cons.mpr ⟨zyx48 (o := zwith o g) E, List.forall_mem_cons.mpr ⟨zyx54 (o := zwith o g) E, List.forall_mem_cons.mpr ⟨zyx47 (o := zwith o g) E, fun _ h => absurd h List.not_mem_nil⟩⟩⟩⟩⟩) (show zget zprog2 292 = some m2X8_thing from rfl) rfl (by decide) (by decide) (by decide) (by decide) (G := zyx55p) (fun _ h => absurd h List.not_mem_nil) zyx55e
theorem zyx56c : zchkX [(94, 15)] zprog2 (zovW [zyx49d, zyx55d]) 100000 k2X8_product [zyx50q] [zyx56q] [zyx56q] = true := zall_ok zyg2_ok (k := 50) (a := zbzyx56c) rfl
theorem zyx56k {l : Launch} {D : va_G} {tys : List (ClassId × FieldType)} {o : zO} {z : Nat} (E : zEnv tys) : zPtOk l D vwCl tys o z (zXX o z) zTs m2X8_product zyx56q := zkn_pt E (fun g => List.forall_mem_cons.mpr ⟨zyx49 (o := zwith o g) E, List.forall_mem_cons.mpr ⟨zyx55 (o := zwith o g) E, fun _ h => absurd h List.not_mem_nil⟩⟩) (show zget zprog2 265 = some m2X8_product from rfl) (List.forall_mem_cons.mpr ⟨zyx50k E, fun _ h => absurd h List.not_mem_nil⟩) zyx56c _ List.mem_cons_self
theorem zyx56e : zrunw zprog2 (zovW [zyx49d, zyx55d]) 100000 (zcutW [(94, 15)] none ((zyx56r, zyh288), 9, 1140) [zyx56q, zyx50q]) 9 1140 k2X8_product (zkin zyx56r zyh288) 0 (zargs 0 zyx56a, [], (zyh287.1, zyh287.2.1, 0), 0, 0) = true := zall_ok zyg2_ok (k := 51) (a := zbzyx56e) rfl
theorem zyx56 {l : Launch} {D : va_G} {tys : List (ClassId × FieldType)} {o : zO} {z : Nat} (E : zEnv tys) : zKnW l D vwCl tys o z (zXX o z) zTs zprog2 zyx56d :=
  zkn_mk E (fun g => List.forall_mem_cons.mpr ⟨zyx49 (o := zwith o g) E, List.forall_mem_cons.mpr ⟨zyx55 (o := zwith o g) E, fun _ h => absurd h List.not_mem_nil⟩⟩) (show zget zprog2 265 = some m2X8_product from rfl) rfl (by decide) (by decide) (by decide) (by decide) (G := [zyx56q, zyx50q]) (List.forall_mem_cons.mpr ⟨zyx56k E, List.forall_mem_cons.mpr ⟨zyx50k E, fun _ h => absurd h List.not_mem_nil⟩⟩) zyx56e
theorem zyx57c : zchkX [(94, 15)] zprog2 (zovW [zyx50d, zyx56d]) 100000 kX8_sum [zyx51q] [zyx57q] [zyx57q] = true := zall_ok zyg2_ok (k := 52) (a := zbzyx57c) rfl
theorem zyx57k {l : Launch} {D : va_G} {tys : List (ClassId × FieldType)} {o : zO} {z : Nat} (E : zEnv tys) : zPtOk l D vwCl tys o z (zXX o z) zTs mX8_sum zyx57q := zkn_pt E (fun g => List.forall_mem_cons.mpr ⟨zyx50 (o := zwith o g) E, List.forall_mem_cons.mpr ⟨zyx56 (o := zwith o g) E, fun _ h => absurd h List.not_mem_nil⟩⟩) (show zget zprog2 284 = some mX8_sum from rfl) (List.forall_mem_cons.mpr ⟨zyx51k E, fun _ h => absurd h List.not_mem_nil⟩) zyx57c _ List.mem_cons_self
theorem zyx57e : zrunw zprog2 (zovW [zyx50d, zyx56d]) 100000 (zcutW [(94, 15)] none ((zyx57r, zyh288), 10, 1260) [zyx57q, zyx51q]) 10 1260 kX8_sum (zkin zyx57r zyh288) 0 (zargs 0 zyx57a, [], (zyh287.1, zyh287.2.1, 0), 0, 0) = true := zall_ok zyg2_ok (k := 53) (a := zbzyx57e) rfl
theorem zyx57 {l : Launch} {D : va_G} {tys : List (ClassId × FieldType)} {o : zO} {z : Nat} (E : zEnv tys) : zKnW l D vwCl tys o z (zXX o z) zTs zprog2 zyx57d :=
  zkn_mk E (fun g => List.forall_mem_cons.mpr ⟨zyx50 (o := zwith o g) E, List.forall_mem_cons.mpr ⟨zyx56 (o := zwith o g) E, fun _ h => absurd h List.not_mem_nil⟩⟩) (show zget zprog2 284 = some mX8_sum from rfl) rfl (by decide) (by decide) (by decide) (by decide) (G := [zyx57q, zyx51q]) (List.forall_mem_cons.mpr ⟨zyx57k E, List.forall_mem_cons.mpr ⟨zyx51k E, fun _ h => absurd h List.not_mem_nil⟩⟩) zyx57e
theorem zyx58e : zrunw zprog2 (zovW [zyx51d, zyx57d, zyx47d]) 100000 (zcutW [] none ((zyx58r, zyh288), 11, 1380) zyx58p) 11 1380 kX8_heldBy (zkin zyx58r zyh288) 0 (zargs 0 zyx58a, [], (zyh287.1, zyh287.2.1, 0), 0, 0) = true := zall_ok zyg2_ok (k := 54) (a := zbzyx58e) rfl
theorem zyx58 {l : Launch} {D : va_G} {tys : List (ClassId × FieldType)} {o : zO} {z : Nat} (E : zEnv tys) : zKnW l D vwCl tys o z (zXX o z) zTs zprog2 zyx58d :=
  zkn_mk E (fun g => List.forall_mem_cons.mpr ⟨zyx51 (o := zwith o g) E, List.forall_mem_cons.mpr ⟨zyx57 (o := zwith o g) E, List.forall_mem_cons.mpr ⟨zyx47 (o := zwith o g) E, fun _ h => absurd h List.not_mem_nil⟩⟩⟩) (show zget zprog2 229 = some mX8_heldBy from rfl) rfl (by decide) (by decide) (by decide) (by decide) (G := zyx58p) (fun _ h => absurd h List.not_mem_nil) zyx58e
theorem zyx59e : zrunw zprog2 (zovW []) 100000 zcut0 4 480 kX8_oneOf (zkinL zyx59q) 0 (zargs 0 zyx59a, [], (zyh284.1, zyh284.2.1, 0), 0, 0) = true := zall_ok zyg2_ok (k := 55) (a := zbzyx59e) rfl
theorem zyx59 {l : Launch} {D : va_G} {tys : List (ClassId × FieldType)} {o : zO} {z : Nat} (E : zEnv tys) : zKnW l D vwCl tys o z (zXX o z) zTs zprog2 zyx59d :=
  zkn_ml E (fun g => fun _ h => absurd h List.not_mem_nil) (show zget zprog2 260 = some mX8_oneOf from rfl) rfl (by decide) (by decide) (by decide) (by decide) zyx59e
theorem zyx60c : zchkX [] zprog2 (zovW [zyx59d]) 100000 kX8_number [] zyx60p zyx60p = true := zall_ok zyg2_ok (k := 56) (a := zbzyx60c) rfl
theorem zyx60e : zrunw zprog2 (zovW [zyx59d]) 100000 (zcutW [] none ((zyx60r, zyh285), 5, 600) zyx60p) 5 600 kX8_number (zkin zyx60r zyh285) 0 (zargs 0 zyx60a, [], (zyh284.1, zyh284.2.1, 0), 0, 0) = true := zall_ok zyg2_ok (k := 57) (a := zbzyx60e) rfl
theorem zyx60 {l : Launch} {D : va_G} {tys : List (ClassId × FieldType)} {o : zO} {z : Nat} (E : zEnv tys) : zKnW l D vwCl tys o z (zXX o z) zTs zprog2 zyx60d :=
  zkn_mk E (fun g => List.forall_mem_cons.mpr ⟨zyx59 (o := zwith o g) E, fun _ h => absurd h List.not_mem_nil⟩) (show zget zprog2 259 = some mX8_number from rfl) rfl (by decide) (by decide) (by decide) (by decide) (G := zyx60p) (zkn_pt E (fun g => List.forall_mem_cons.mpr ⟨zyx59 (o := zwith o g) E, fun _ h => absurd h List.not_mem_nil⟩) (show zget zprog2 259 = some mX8_number from rfl) (fun _ h => absurd h List.not_mem_nil) zyx60c) zyx60e
theorem zyx61e : zrunw zprog2 (zovW [zyx58d, zyx55d, zyx47d, zyx60d, zyx46d]) 100000 (zcutW [] none ((zyx61r, zyh285), 12, 1500) zyx61p) 12 1500 k2X8_thing (zkin zyx61r zyh285) 0 (zargs 0 zyx61a, [], (zyh284.1, zyh284.2.1, 0), 0, 0) = true := zall_ok zyg2_ok (k := 58) (a := zbzyx61e) rfl
theorem zyx61 {l : Launch} {D : va_G} {tys : List (ClassId × FieldType)} {o : zO} {z : Nat} (E : zEnv tys) : zKnW l D vwCl tys o z (zXX o z) zTs zprog2 zyx61d :=
  zkn_mk E (fun g => List.forall_mem_cons.mpr ⟨zyx58 (o := zwith o g) E, List.forall_mem_cons.mpr ⟨zyx55 (o := zwith o g) E, List.forall_mem_cons.mpr ⟨zyx47 (o := zwith o g) E, List.forall_mem_cons.mpr ⟨zyx60 (o := zwith o g) E, List.forall_mem_cons.mpr ⟨zyx46 (o := zwith o g) E, fun _ h => absurd h List.not_mem_nil⟩⟩⟩⟩⟩) (show zget zprog2 292 = some m2X8_thing from rfl) rfl (by decide) (by decide) (by decide) (by decide) (G := zyx61p) (fun _ h => absurd h List.not_mem_nil) zyx61e
theorem zyx62c : zchkX [(94, 15)] zprog2 (zovW [zyx55d, zyx61d]) 100000 k2X8_product [zyx56q, zyx50q] [zyx62q] [zyx62q] = true := zall_ok zyg2_ok (k := 59) (a := zbzyx62c) rfl
theorem zyx62k {l : Launch} {D : va_G} {tys : List (ClassId × FieldType)} {o : zO} {z : Nat} (E : zEnv tys) : zPtOk l D vwCl tys o z (zXX o z) zTs m2X8_product zyx62q := zkn_pt E (fun g => List.forall_mem_cons.mpr ⟨zyx55 (o := zwith o g) E, List.forall_mem_cons.mpr ⟨zyx61 (o := zwith o g) E, fun _ h => absurd h List.not_mem_nil⟩⟩) (show zget zprog2 265 = some m2X8_product from rfl) (List.forall_mem_cons.mpr ⟨zyx56k E, List.forall_mem_cons.mpr ⟨zyx50k E, fun _ h => absurd h List.not_mem_nil⟩⟩) zyx62c _ List.mem_cons_self
theorem zyx62e : zrunw zprog2 (zovW [zyx55d, zyx61d]) 100000 (zcutW [(94, 15)] none ((zyx62r, zyh285), 13, 1620) [zyx62q, zyx56q, zyx50q]) 13 1620 k2X8_product (zkin zyx62r zyh285) 0 (zargs 0 zyx62a, [], (zyh284.1, zyh284.2.1, 0), 0, 0) = true := zall_ok zyg2_ok (k := 60) (a := zbzyx62e) rfl
theorem zyx62 {l : Launch} {D : va_G} {tys : List (ClassId × FieldType)} {o : zO} {z : Nat} (E : zEnv tys) : zKnW l D vwCl tys o z (zXX o z) zTs zprog2 zyx62d :=
  zkn_mk E (fun g => List.forall_mem_cons.mpr ⟨zyx55 (o := zwith o g) E, List.forall_mem_cons.mpr ⟨zyx61 (o := zwith o g) E, fun _ h => absurd h List.not_mem_nil⟩⟩) (show zget zprog2 265 = some m2X8_product from rfl) rfl (by decide) (by decide) (by decide) (by decide) (G := [zyx62q, zyx56q, zyx50q]) (List.forall_mem_cons.mpr ⟨zyx62k E, List.forall_mem_cons.mpr ⟨zyx56k E, List.forall_mem_cons.mpr ⟨zyx50k E, fun _ h => absurd h List.not_mem_nil⟩⟩⟩) zyx62e
theorem zyx63c : zchkX [(94, 15)] zprog2 (zovW [zyx56d, zyx62d]) 100000 kX8_sum [zyx57q, zyx51q] [zyx63q] [zyx63q] = true := zall_ok zyg2_ok (k := 61) (a := zbzyx63c) rfl
theorem zyx63k {l : Launch} {D : va_G} {tys : List (ClassId × FieldType)} {o : zO} {z : Nat} (E : zEnv tys) : zPtOk l D vwCl tys o z (zXX o z) zTs mX8_sum zyx63q := zkn_pt E (fun g => List.forall_mem_cons.mpr ⟨zyx56 (o := zwith o g) E, List.forall_mem_cons.mpr ⟨zyx62 (o := zwith o g) E, fun _ h => absurd h List.not_mem_nil⟩⟩) (show zget zprog2 284 = some mX8_sum from rfl) (List.forall_mem_cons.mpr ⟨zyx57k E, List.forall_mem_cons.mpr ⟨zyx51k E, fun _ h => absurd h List.not_mem_nil⟩⟩) zyx63c _ List.mem_cons_self
theorem zyx63e : zrunw zprog2 (zovW [zyx56d, zyx62d]) 100000 (zcutW [(94, 15)] none ((zyx63r, zyh285), 14, 1740) [zyx63q, zyx57q, zyx51q]) 14 1740 kX8_sum (zkin zyx63r zyh285) 0 (zargs 0 zyx63a, [], (zyh284.1, zyh284.2.1, 0), 0, 0) = true := zall_ok zyg2_ok (k := 62) (a := zbzyx63e) rfl
theorem zyx63 {l : Launch} {D : va_G} {tys : List (ClassId × FieldType)} {o : zO} {z : Nat} (E : zEnv tys) : zKnW l D vwCl tys o z (zXX o z) zTs zprog2 zyx63d :=
  zkn_mk E (fun g => List.forall_mem_cons.mpr ⟨zyx56 (o := zwith o g) E, List.forall_mem_cons.mpr ⟨zyx62 (o := zwith o g) E, fun _ h => absurd h List.not_mem_nil⟩⟩) (show zget zprog2 284 = some mX8_sum from rfl) rfl (by decide) (by decide) (by decide) (by decide) (G := [zyx63q, zyx57q, zyx51q]) (List.forall_mem_cons.mpr ⟨zyx63k E, List.forall_mem_cons.mpr ⟨zyx57k E, List.forall_mem_cons.mpr ⟨zyx51k E, fun _ h => absurd h List.not_mem_nil⟩⟩⟩) zyx63e
theorem zyx64e : zrunw zprog2 (zovW [zyx57d, zyx63d, zyx46d]) 100000 (zcutW [] none ((zyx64r, zyh285), 15, 1860) zyx64p) 15 1860 kX8_heldBy (zkin zyx64r zyh285) 0 (zargs 0 zyx64a, [], (zyh284.1, zyh284.2.1, 0), 0, 0) = true := zall_ok zyg2_ok (k := 63) (a := zbzyx64e) rfl
theorem zyx64 {l : Launch} {D : va_G} {tys : List (ClassId × FieldType)} {o : zO} {z : Nat} (E : zEnv tys) : zKnW l D vwCl tys o z (zXX o z) zTs zprog2 zyx64d :=
  zkn_mk E (fun g => List.forall_mem_cons.mpr ⟨zyx57 (o := zwith o g) E, List.forall_mem_cons.mpr ⟨zyx63 (o := zwith o g) E, List.forall_mem_cons.mpr ⟨zyx46 (o := zwith o g) E, fun _ h => absurd h List.not_mem_nil⟩⟩⟩) (show zget zprog2 229 = some mX8_heldBy from rfl) rfl (by decide) (by decide) (by decide) (by decide) (G := zyx64p) (fun _ h => absurd h List.not_mem_nil) zyx64e
theorem zyx65e : zrunw zprog2 (zovW []) 100000 zcut0 4 480 kX8_oneOf (zkinL zyx65q) 0 (zargs 0 zyx65a, [], (zyh281.1, zyh281.2.1, 0), 0, 0) = true := zall_ok zyg2_ok (k := 64) (a := zbzyx65e) rfl
theorem zyx65 {l : Launch} {D : va_G} {tys : List (ClassId × FieldType)} {o : zO} {z : Nat} (E : zEnv tys) : zKnW l D vwCl tys o z (zXX o z) zTs zprog2 zyx65d :=
  zkn_ml E (fun g => fun _ h => absurd h List.not_mem_nil) (show zget zprog2 260 = some mX8_oneOf from rfl) rfl (by decide) (by decide) (by decide) (by decide) zyx65e
theorem zyx66c : zchkX [] zprog2 (zovW [zyx65d]) 100000 kX8_number [] zyx66p zyx66p = true := zall_ok zyg2_ok (k := 65) (a := zbzyx66c) rfl
theorem zyx66e : zrunw zprog2 (zovW [zyx65d]) 100000 (zcutW [] none ((zyx66r, zyh282), 5, 600) zyx66p) 5 600 kX8_number (zkin zyx66r zyh282) 0 (zargs 0 zyx66a, [], (zyh281.1, zyh281.2.1, 0), 0, 0) = true := zall_ok zyg2_ok (k := 66) (a := zbzyx66e) rfl
theorem zyx66 {l : Launch} {D : va_G} {tys : List (ClassId × FieldType)} {o : zO} {z : Nat} (E : zEnv tys) : zKnW l D vwCl tys o z (zXX o z) zTs zprog2 zyx66d :=
  zkn_mk E (fun g => List.forall_mem_cons.mpr ⟨zyx65 (o := zwith o g) E, fun _ h => absurd h List.not_mem_nil⟩) (show zget zprog2 259 = some mX8_number from rfl) rfl (by decide) (by decide) (by decide) (by decide) (G := zyx66p) (zkn_pt E (fun g => List.forall_mem_cons.mpr ⟨zyx65 (o := zwith o g) E, fun _ h => absurd h List.not_mem_nil⟩) (show zget zprog2 259 = some mX8_number from rfl) (fun _ h => absurd h List.not_mem_nil) zyx66c) zyx66e
theorem zyx67e : zrunw zprog2 (zovW [zyx64d, zyx61d, zyx46d, zyx66d, zyx45d]) 100000 (zcutW [] none ((zyx67r, zyh282), 16, 1980) zyx67p) 16 1980 k2X8_thing (zkin zyx67r zyh282) 0 (zargs 0 zyx67a, [], (zyh281.1, zyh281.2.1, 0), 0, 0) = true := zall_ok zyg2_ok (k := 67) (a := zbzyx67e) rfl
theorem zyx67 {l : Launch} {D : va_G} {tys : List (ClassId × FieldType)} {o : zO} {z : Nat} (E : zEnv tys) : zKnW l D vwCl tys o z (zXX o z) zTs zprog2 zyx67d :=
  zkn_mk E (fun g => List.forall_mem_cons.mpr ⟨zyx64 (o := zwith o g) E, List.forall_mem_cons.mpr ⟨zyx61 (o := zwith o g) E, List.forall_mem_cons.mpr ⟨zyx46 (o := zwith o g) E, List.forall_mem_cons.mpr ⟨zyx66 (o := zwith o g) E, List.forall_mem_cons.mpr ⟨zyx45 (o := zwith o g) E, fun _ h => absurd h List.not_mem_nil⟩⟩⟩⟩⟩) (show zget zprog2 292 = some m2X8_thing from rfl) rfl (by decide) (by decide) (by decide) (by decide) (G := zyx67p) (fun _ h => absurd h List.not_mem_nil) zyx67e
theorem zyx68c : zchkX [(94, 15)] zprog2 (zovW [zyx61d, zyx67d]) 100000 k2X8_product [zyx62q, zyx56q, zyx50q] [zyx68q] [zyx68q] = true := zall_ok zyg2_ok (k := 68) (a := zbzyx68c) rfl
theorem zyx68k {l : Launch} {D : va_G} {tys : List (ClassId × FieldType)} {o : zO} {z : Nat} (E : zEnv tys) : zPtOk l D vwCl tys o z (zXX o z) zTs m2X8_product zyx68q := zkn_pt E (fun g => List.forall_mem_cons.mpr ⟨zyx61 (o := zwith o g) E, List.forall_mem_cons.mpr ⟨zyx67 (o := zwith o g) E, fun _ h => absurd h List.not_mem_nil⟩⟩) (show zget zprog2 265 = some m2X8_product from rfl) (List.forall_mem_cons.mpr ⟨zyx62k E, List.forall_mem_cons.mpr ⟨zyx56k E, List.forall_mem_cons.mpr ⟨zyx50k E, fun _ h => absurd h List.not_mem_nil⟩⟩⟩) zyx68c _ List.mem_cons_self
theorem zyx68e : zrunw zprog2 (zovW [zyx61d, zyx67d]) 100000 (zcutW [(94, 15)] none ((zyx68r, zyh282), 17, 2100) [zyx68q, zyx62q, zyx56q, zyx50q]) 17 2100 k2X8_product (zkin zyx68r zyh282) 0 (zargs 0 zyx68a, [], (zyh281.1, zyh281.2.1, 0), 0, 0) = true := zall_ok zyg2_ok (k := 69) (a := zbzyx68e) rfl
theorem zyx68 {l : Launch} {D : va_G} {tys : List (ClassId × FieldType)} {o : zO} {z : Nat} (E : zEnv tys) : zKnW l D vwCl tys o z (zXX o z) zTs zprog2 zyx68d :=
  zkn_mk E (fun g => List.forall_mem_cons.mpr ⟨zyx61 (o := zwith o g) E, List.forall_mem_cons.mpr ⟨zyx67 (o := zwith o g) E, fun _ h => absurd h List.not_mem_nil⟩⟩) (show zget zprog2 265 = some m2X8_product from rfl) rfl (by decide) (by decide) (by decide) (by decide) (G := [zyx68q, zyx62q, zyx56q, zyx50q]) (List.forall_mem_cons.mpr ⟨zyx68k E, List.forall_mem_cons.mpr ⟨zyx62k E, List.forall_mem_cons.mpr ⟨zyx56k E, List.forall_mem_cons.mpr ⟨zyx50k E, fun _ h => absurd h List.not_mem_nil⟩⟩⟩⟩) zyx68e
theorem zyx69c : zchkX [(94, 15)] zprog2 (zovW [zyx62d, zyx68d]) 100000 kX8_sum [zyx63q, zyx57q, zyx51q] [zyx69q] [zyx69q] = true := zall_ok zyg2_ok (k := 70) (a := zbzyx69c) rfl
theorem zyx69k {l : Launch} {D : va_G} {tys : List (ClassId × FieldType)} {o : zO} {z : Nat} (E : zEnv tys) : zPtOk l D vwCl tys o z (zXX o z) zTs mX8_sum zyx69q := zkn_pt E (fun g => List.forall_mem_cons.mpr ⟨zyx62 (o := zwith o g) E, List.forall_mem_cons.mpr ⟨zyx68 (o := zwith o g) E, fun _ h => absurd h List.not_mem_nil⟩⟩) (show zget zprog2 284 = some mX8_sum from rfl) (List.forall_mem_cons.mpr ⟨zyx63k E, List.forall_mem_cons.mpr ⟨zyx57k E, List.forall_mem_cons.mpr ⟨zyx51k E, fun _ h => absurd h List.not_mem_nil⟩⟩⟩) zyx69c _ List.mem_cons_self
theorem zyx69e : zrunw zprog2 (zovW [zyx62d, zyx68d]) 100000 (zcutW [(94, 15)] none ((zyx69r, zyh282), 18, 2220) [zyx69q, zyx63q, zyx57q, zyx51q]) 18 2220 kX8_sum (zkin zyx69r zyh282) 0 (zargs 0 zyx69a, [], (zyh281.1, zyh281.2.1, 0), 0, 0) = true := zall_ok zyg2_ok (k := 71) (a := zbzyx69e) rfl
theorem zyx69 {l : Launch} {D : va_G} {tys : List (ClassId × FieldType)} {o : zO} {z : Nat} (E : zEnv tys) : zKnW l D vwCl tys o z (zXX o z) zTs zprog2 zyx69d :=
  zkn_mk E (fun g => List.forall_mem_cons.mpr ⟨zyx62 (o := zwith o g) E, List.forall_mem_cons.mpr ⟨zyx68 (o := zwith o g) E, fun _ h => absurd h List.not_mem_nil⟩⟩) (show zget zprog2 284 = some mX8_sum from rfl) rfl (by decide) (by decide) (by decide) (by decide) (G := [zyx69q, zyx63q, zyx57q, zyx51q]) (List.forall_mem_cons.mpr ⟨zyx69k E, List.forall_mem_cons.mpr ⟨zyx63k E, List.forall_mem_cons.mpr ⟨zyx57k E, List.forall_mem_cons.mpr ⟨zyx51k E, fun _ h => absurd h List.not_mem_nil⟩⟩⟩⟩) zyx69e
theorem zyx70e : zrunw zprog2 (zovW [zyx63d, zyx69d, zyx45d]) 100000 (zcutW [] none ((zyx70r, zyh282), 19, 2340) zyx70p) 19 2340 kX8_heldBy (zkin zyx70r zyh282) 0 (zargs 0 zyx70a, [], (zyh281.1, zyh281.2.1, 0), 0, 0) = true := zall_ok zyg2_ok (k := 72) (a := zbzyx70e) rfl
theorem zyx70 {l : Launch} {D : va_G} {tys : List (ClassId × FieldType)} {o : zO} {z : Nat} (E : zEnv tys) : zKnW l D vwCl tys o z (zXX o z) zTs zprog2 zyx70d :=
  zkn_mk E (fun g => List.forall_mem_cons.mpr ⟨zyx63 (o := zwith o g) E, List.forall_mem_cons.mpr ⟨zyx69 (o := zwith o g) E, List.forall_mem_cons.mpr ⟨zyx45 (o := zwith o g) E, fun _ h => absurd h List.not_mem_nil⟩⟩⟩) (show zget zprog2 229 = some mX8_heldBy from rfl) rfl (by decide) (by decide) (by decide) (by decide) (G := zyx70p) (fun _ h => absurd h List.not_mem_nil) zyx70e
theorem zyx71e : zrunw zprog2 (zovW []) 100000 zcut0 4 480 kX8_oneOf (zkinL zyx71q) 0 (zargs 0 zyx71a, [], (zyh278.1, zyh278.2.1, 0), 0, 0) = true := zall_ok zyg2_ok (k := 73) (a := zbzyx71e) rfl
theorem zyx71 {l : Launch} {D : va_G} {tys : List (ClassId × FieldType)} {o : zO} {z : Nat} (E : zEnv tys) : zKnW l D vwCl tys o z (zXX o z) zTs zprog2 zyx71d :=
  zkn_ml E (fun g => fun _ h => absurd h List.not_mem_nil) (show zget zprog2 260 = some mX8_oneOf from rfl) rfl (by decide) (by decide) (by decide) (by decide) zyx71e
theorem zyx72c : zchkX [] zprog2 (zovW [zyx71d]) 100000 kX8_number [] zyx72p zyx72p = true := zall_ok zyg2_ok (k := 74) (a := zbzyx72c) rfl
theorem zyx72e : zrunw zprog2 (zovW [zyx71d]) 100000 (zcutW [] none ((zyx72r, zyh279), 5, 600) zyx72p) 5 600 kX8_number (zkin zyx72r zyh279) 0 (zargs 0 zyx72a, [], (zyh278.1, zyh278.2.1, 0), 0, 0) = true := zall_ok zyg2_ok (k := 75) (a := zbzyx72e) rfl
theorem zyx72 {l : Launch} {D : va_G} {tys : List (ClassId × FieldType)} {o : zO} {z : Nat} (E : zEnv tys) : zKnW l D vwCl tys o z (zXX o z) zTs zprog2 zyx72d :=
  zkn_mk E (fun g => List.forall_mem_cons.mpr ⟨zyx71 (o := zwith o g) E, fun _ h => absurd h List.not_mem_nil⟩) (show zget zprog2 259 = some mX8_number from rfl) rfl (by decide) (by decide) (by decide) (by decide) (G := zyx72p) (zkn_pt E (fun g => List.forall_mem_cons.mpr ⟨zyx71 (o := zwith o g) E, fun _ h => absurd h List.not_mem_nil⟩) (show zget zprog2 259 = some mX8_number from rfl) (fun _ h => absurd h List.not_mem_nil) zyx72c) zyx72e
theorem zyx73e : zrunw zprog2 (zovW [zyx70d, zyx67d, zyx45d, zyx72d, zyx44d]) 100000 (zcutW [] none ((zyx73r, zyh279), 20, 2460) zyx73p) 20 2460 k2X8_thing (zkin zyx73r zyh279) 0 (zargs 0 zyx73a, [], (zyh278.1, zyh278.2.1, 0), 0, 0) = true := zall_ok zyg2_ok (k := 76) (a := zbzyx73e) rfl
theorem zyx73 {l : Launch} {D : va_G} {tys : List (ClassId × FieldType)} {o : zO} {z : Nat} (E : zEnv tys) : zKnW l D vwCl tys o z (zXX o z) zTs zprog2 zyx73d :=
  zkn_mk E (fun g => List.forall_mem_cons.mpr ⟨zyx70 (o := zwith o g) E, List.forall_mem_cons.mpr ⟨zyx67 (o := zwith o g) E, List.forall_mem_cons.mpr ⟨zyx45 (o := zwith o g) E, List.forall_mem_cons.mpr ⟨zyx72 (o := zwith o g) E, List.forall_mem_cons.mpr ⟨zyx44 (o := zwith o g) E, fun _ h => absurd h List.not_mem_nil⟩⟩⟩⟩⟩) (show zget zprog2 292 = some m2X8_thing from rfl) rfl (by decide) (by decide) (by decide) (by decide) (G := zyx73p) (fun _ h => absurd h List.not_mem_nil) zyx73e
theorem zyx74c : zchkX [(94, 15)] zprog2 (zovW [zyx67d, zyx73d]) 100000 k2X8_product [zyx68q, zyx62q, zyx56q, zyx50q] [zyx74q] [zyx74q] = true := zall_ok zyg2_ok (k := 77) (a := zbzyx74c) rfl
theorem zyx74k {l : Launch} {D : va_G} {tys : List (ClassId × FieldType)} {o : zO} {z : Nat} (E : zEnv tys) : zPtOk l D vwCl tys o z (zXX o z) zTs m2X8_product zyx74q := zkn_pt E (fun g => List.forall_mem_cons.mpr ⟨zyx67 (o := zwith o g) E, List.forall_mem_cons.mpr ⟨zyx73 (o := zwith o g) E, fun _ h => absurd h List.not_mem_nil⟩⟩) (show zget zprog2 265 = some m2X8_product from rfl) (List.forall_mem_cons.mpr ⟨zyx68k E, List.forall_mem_cons.mpr ⟨zyx62k E, List.forall_mem_cons.mpr ⟨zyx56k E, List.forall_mem_cons.mpr ⟨zyx50k E, fun _ h => absurd h List.not_mem_nil⟩⟩⟩⟩) zyx74c _ List.mem_cons_self
theorem zyx74e : zrunw zprog2 (zovW [zyx67d, zyx73d]) 100000 (zcutW [(94, 15)] none ((zyx74r, zyh279), 21, 2580) [zyx74q, zyx68q, zyx62q, zyx56q, zyx50q]) 21 2580 k2X8_product (zkin zyx74r zyh279) 0 (zargs 0 zyx74a, [], (zyh278.1, zyh278.2.1, 0), 0, 0) = true := zall_ok zyg2_ok (k := 78) (a := zbzyx74e) rfl
theorem zyx74 {l : Launch} {D : va_G} {tys : List (ClassId × FieldType)} {o : zO} {z : Nat} (E : zEnv tys) : zKnW l D vwCl tys o z (zXX o z) zTs zprog2 zyx74d :=
  zkn_mk E (fun g => List.forall_mem_cons.mpr ⟨zyx67 (o := zwith o g) E, List.forall_mem_cons.mpr ⟨zyx73 (o := zwith o g) E, fun _ h => absurd h List.not_mem_nil⟩⟩) (show zget zprog2 265 = some m2X8_product from rfl) rfl (by decide) (by decide) (by decide) (by decide) (G := [zyx74q, zyx68q, zyx62q, zyx56q, zyx50q]) (List.forall_mem_cons.mpr ⟨zyx74k E, List.forall_mem_cons.mpr ⟨zyx68k E, List.forall_mem_cons.mpr ⟨zyx62k E, List.forall_mem_cons.mpr ⟨zyx56k E, List.forall_mem_cons.mpr ⟨zyx50k E, fun _ h => absurd h List.not_mem_nil⟩⟩⟩⟩⟩) zyx74e
theorem zyx75c : zchkX [(94, 15)] zprog2 (zovW [zyx68d, zyx74d]) 100000 kX8_sum [zyx69q, zyx63q, zyx57q, zyx51q] [zyx75q] [zyx75q] = true := zall_ok zyg2_ok (k := 79) (a := zbzyx75c) rfl
theorem zyx75k {l : Launch} {D : va_G} {tys : List (ClassId × FieldType)} {o : zO} {z : Nat} (E : zEnv tys) : zPtOk l D vwCl tys o z (zXX o z) zTs mX8_sum zyx75q := zkn_pt E (fun g => List.forall_mem_cons.mpr ⟨zyx68 (o := zwith o g) E, List.forall_mem_cons.mpr ⟨zyx74 (o := zwith o g) E, fun _ h => absurd h List.not_mem_nil⟩⟩) (show zget zprog2 284 = some mX8_sum from rfl) (List.forall_mem_cons.mpr ⟨zyx69k E, List.forall_mem_cons.mpr ⟨zyx63k E, List.forall_mem_cons.mpr ⟨zyx57k E, List.forall_mem_cons.mpr ⟨zyx51k E, fun _ h => absurd h List.not_mem_nil⟩⟩⟩⟩) zyx75c _ List.mem_cons_self
theorem zyx75e : zrunw zprog2 (zovW [zyx68d, zyx74d]) 100000 (zcutW [(94, 15)] none ((zyx75r, zyh279), 22, 2700) [zyx75q, zyx69q, zyx63q, zyx57q, zyx51q]) 22 2700 kX8_sum (zkin zyx75r zyh279) 0 (zargs 0 zyx75a, [], (zyh278.1, zyh278.2.1, 0), 0, 0) = true := zall_ok zyg2_ok (k := 80) (a := zbzyx75e) rfl
theorem zyx75 {l : Launch} {D : va_G} {tys : List (ClassId × FieldType)} {o : zO} {z : Nat} (E : zEnv tys) : zKnW l D vwCl tys o z (zXX o z) zTs zprog2 zyx75d :=
  zkn_mk E (fun g => List.forall_mem_cons.mpr ⟨zyx68 (o := zwith o g) E, List.forall_mem_cons.mpr ⟨zyx74 (o := zwith o g) E, fun _ h => absurd h List.not_mem_nil⟩⟩) (show zget zprog2 284 = some mX8_sum from rfl) rfl (by decide) (by decide) (by decide) (by decide) (G := [zyx75q, zyx69q, zyx63q, zyx57q, zyx51q]) (List.forall_mem_cons.mpr ⟨zyx75k E, List.forall_mem_cons.mpr ⟨zyx69k E, List.forall_mem_cons.mpr ⟨zyx63k E, List.forall_mem_cons.mpr ⟨zyx57k E, List.forall_mem_cons.mpr ⟨zyx51k E, fun _ h => absurd h List.not_mem_nil⟩⟩⟩⟩⟩) zyx75e
theorem zyx76e : zrunw zprog2 (zovW [zyx69d, zyx75d, zyx44d]) 100000 (zcutW [] none ((zyx76r, zyh279), 23, 2820) zyx76p) 23 2820 kX8_heldBy (zkin zyx76r zyh279) 0 (zargs 0 zyx76a, [], (zyh278.1, zyh278.2.1, 0), 0, 0) = true := zall_ok zyg2_ok (k := 81) (a := zbzyx76e) rfl
theorem zyx76 {l : Launch} {D : va_G} {tys : List (ClassId × FieldType)} {o : zO} {z : Nat} (E : zEnv tys) : zKnW l D vwCl tys o z (zXX o z) zTs zprog2 zyx76d :=
  zkn_mk E (fun g => List.forall_mem_cons.mpr ⟨zyx69 (o := zwith o g) E, List.forall_mem_cons.mpr ⟨zyx75 (o := zwith o g) E, List.forall_mem_cons.mpr ⟨zyx44 (o := zwith o g) E, fun _ h => absurd h List.not_mem_nil⟩⟩⟩) (show zget zprog2 229 = some mX8_heldBy from rfl) rfl (by decide) (by decide) (by decide) (by decide) (G := zyx76p) (fun _ h => absurd h List.not_mem_nil) zyx76e
theorem zyx77e : zrunw zprog2 (zovW []) 100000 zcut0 4 480 kX8_oneOf (zkinL zyx77q) 0 (zargs 0 zyx77a, [], (zyh275.1, zyh275.2.1, 0), 0, 0) = true := zall_ok zyg2_ok (k := 82) (a := zbzyx77e) rfl
theorem zyx77 {l : Launch} {D : va_G} {tys : List (ClassId × FieldType)} {o : zO} {z : Nat} (E : zEnv tys) : zKnW l D vwCl tys o z (zXX o z) zTs zprog2 zyx77d :=
  zkn_ml E (fun g => fun _ h => absurd h List.not_mem_nil) (show zget zprog2 260 = some mX8_oneOf from rfl) rfl (by decide) (by decide) (by decide) (by decide) zyx77e
theorem zyx78c : zchkX [] zprog2 (zovW [zyx77d]) 100000 kX8_number [] zyx78p zyx78p = true := zall_ok zyg2_ok (k := 83) (a := zbzyx78c) rfl
theorem zyx78e : zrunw zprog2 (zovW [zyx77d]) 100000 (zcutW [] none ((zyx78r, zyh276), 5, 600) zyx78p) 5 600 kX8_number (zkin zyx78r zyh276) 0 (zargs 0 zyx78a, [], (zyh275.1, zyh275.2.1, 0), 0, 0) = true := zall_ok zyg2_ok (k := 84) (a := zbzyx78e) rfl
theorem zyx78 {l : Launch} {D : va_G} {tys : List (ClassId × FieldType)} {o : zO} {z : Nat} (E : zEnv tys) : zKnW l D vwCl tys o z (zXX o z) zTs zprog2 zyx78d :=
  zkn_mk E (fun g => List.forall_mem_cons.mpr ⟨zyx77 (o := zwith o g) E, fun _ h => absurd h List.not_mem_nil⟩) (show zget zprog2 259 = some mX8_number from rfl) rfl (by decide) (by decide) (by decide) (by decide) (G := zyx78p) (zkn_pt E (fun g => List.forall_mem_cons.mpr ⟨zyx77 (o := zwith o g) E, fun _ h => absurd h List.not_mem_nil⟩) (show zget zprog2 259 = some mX8_number from rfl) (fun _ h => absurd h List.not_mem_nil) zyx78c) zyx78e
theorem zyx79e : zrunw zprog2 (zovW [zyx76d, zyx73d, zyx44d, zyx78d, zyx43d]) 100000 (zcutW [] none ((zyx79r, zyh276), 24, 2940) zyx79p) 24 2940 k2X8_thing (zkin zyx79r zyh276) 0 (zargs 0 zyx79a, [], (zyh275.1, zyh275.2.1, 0), 0, 0) = true := zall_ok zyg2_ok (k := 85) (a := zbzyx79e) rfl
theorem zyx79 {l : Launch} {D : va_G} {tys : List (ClassId × FieldType)} {o : zO} {z : Nat} (E : zEnv tys) : zKnW l D vwCl tys o z (zXX o z) zTs zprog2 zyx79d :=
  zkn_mk E (fun g => List.forall_mem_cons.mpr ⟨zyx76 (o := zwith o g) E, List.forall_mem_cons.mpr ⟨zyx73 (o := zwith o g) E, List.forall_mem_cons.mpr ⟨zyx44 (o := zwith o g) E, List.forall_mem_cons.mpr ⟨zyx78 (o := zwith o g) E, List.forall_mem_cons.mpr ⟨zyx43 (o := zwith o g) E, fun _ h => absurd h List.not_mem_nil⟩⟩⟩⟩⟩) (show zget zprog2 292 = some m2X8_thing from rfl) rfl (by decide) (by decide) (by decide) (by decide) (G := zyx79p) (fun _ h => absurd h List.not_mem_nil) zyx79e
theorem zyx80c : zchkX [(94, 15)] zprog2 (zovW [zyx73d, zyx79d]) 100000 k2X8_product [zyx74q, zyx68q, zyx62q, zyx56q, zyx50q] [zyx80q] [zyx80q] = true := zall_ok zyg2_ok (k := 86) (a := zbzyx80c) rfl
theorem zyx80k {l : Launch} {D : va_G} {tys : List (ClassId × FieldType)} {o : zO} {z : Nat} (E : zEnv tys) : zPtOk l D vwCl tys o z (zXX o z) zTs m2X8_product zyx80q := zkn_pt E (fun g => List.forall_mem_cons.mpr ⟨zyx73 (o := zwith o g) E, List.forall_mem_cons.mpr ⟨zyx79 (o := zwith o g) E, fun _ h => absurd h List.not_mem_nil⟩⟩) (show zget zprog2 265 = some m2X8_product from rfl) (List.forall_mem_cons.mpr ⟨zyx74k E, List.forall_mem_cons.mpr ⟨zyx68k E, List.forall_mem_cons.mpr ⟨zyx62k E, List.forall_mem_cons.mpr ⟨zyx56k E, List.forall_mem_cons.mpr ⟨zyx50k E, fun _ h => absurd h List.not_mem_nil⟩⟩⟩⟩⟩) zyx80c _ List.mem_cons_self
theorem zyx80e : zrunw zprog2 (zovW [zyx73d, zyx79d]) 100000 (zcutW [(94, 15)] none ((zyx80r, zyh276), 25, 3060) [zyx80q, zyx74q, zyx68q, zyx62q, zyx56q, zyx50q]) 25 3060 k2X8_product (zkin zyx80r zyh276) 0 (zargs 0 zyx80a, [], (zyh275.1, zyh275.2.1, 0), 0, 0) = true := zall_ok zyg2_ok (k := 87) (a := zbzyx80e) rfl
theorem zyx80 {l : Launch} {D : va_G} {tys : List (ClassId × FieldType)} {o : zO} {z : Nat} (E : zEnv tys) : zKnW l D vwCl tys o z (zXX o z) zTs zprog2 zyx80d :=
  zkn_mk E (fun g => List.forall_mem_cons.mpr ⟨zyx73 (o := zwith o g) E, List.forall_mem_cons.mpr ⟨zyx79 (o := zwith o g) E, fun _ h => absurd h List.not_mem_nil⟩⟩) (show zget zprog2 265 = some m2X8_product from rfl) rfl (by decide) (by decide) (by decide) (by decide) (G := [zyx80q, zyx74q, zyx68q, zyx62q, zyx56q, zyx50q]) (List.forall_mem_cons.mpr ⟨zyx80k E, List.forall_mem_cons.mpr ⟨zyx74k E, List.forall_mem_cons.mpr ⟨zyx68k E, List.forall_mem_cons.mpr ⟨zyx62k E, List.forall_mem_cons.mpr ⟨zyx56k E, List.forall_mem_cons.mpr ⟨zyx50k E, fun _ h => absurd h List.not_mem_nil⟩⟩⟩⟩⟩⟩) zyx80e
theorem zyx81c : zchkX [(94, 15)] zprog2 (zovW [zyx74d, zyx80d]) 100000 kX8_sum [zyx75q, zyx69q, zyx63q, zyx57q, zyx51q] [zyx81q] [zyx81q] = true := zall_ok zyg2_ok (k := 88) (a := zbzyx81c) rfl
theorem zyx81k {l : Launch} {D : va_G} {tys : List (ClassId × FieldType)} {o : zO} {z : Nat} (E : zEnv tys) : zPtOk l D vwCl tys o z (zXX o z) zTs mX8_sum zyx81q := zkn_pt E (fun g => List.forall_mem_cons.mpr ⟨zyx74 (o := zwith o g) E, List.forall_mem_cons.mpr ⟨zyx80 (o := zwith o g) E, fun _ h => absurd h List.not_mem_nil⟩⟩) (show zget zprog2 284 = some mX8_sum from rfl) (List.forall_mem_cons.mpr ⟨zyx75k E, List.forall_mem_cons.mpr ⟨zyx69k E, List.forall_mem_cons.mpr ⟨zyx63k E, List.forall_mem_cons.mpr ⟨zyx57k E, List.forall_mem_cons.mpr ⟨zyx51k E, fun _ h => absurd h List.not_mem_nil⟩⟩⟩⟩⟩) zyx81c _ List.mem_cons_self
theorem zyx81e : zrunw zprog2 (zovW [zyx74d, zyx80d]) 100000 (zcutW [(94, 15)] none ((zyx81r, zyh276), 26, 3180) [zyx81q, zyx75q, zyx69q, zyx63q, zyx57q, zyx51q]) 26 3180 kX8_sum (zkin zyx81r zyh276) 0 (zargs 0 zyx81a, [], (zyh275.1, zyh275.2.1, 0), 0, 0) = true := zall_ok zyg2_ok (k := 89) (a := zbzyx81e) rfl
theorem zyx81 {l : Launch} {D : va_G} {tys : List (ClassId × FieldType)} {o : zO} {z : Nat} (E : zEnv tys) : zKnW l D vwCl tys o z (zXX o z) zTs zprog2 zyx81d :=
  zkn_mk E (fun g => List.forall_mem_cons.mpr ⟨zyx74 (o := zwith o g) E, List.forall_mem_cons.mpr ⟨zyx80 (o := zwith o g) E, fun _ h => absurd h List.not_mem_nil⟩⟩) (show zget zprog2 284 = some mX8_sum from rfl) rfl (by decide) (by decide) (by decide) (by decide) (G := [zyx81q, zyx75q, zyx69q, zyx63q, zyx57q, zyx51q]) (List.forall_mem_cons.mpr ⟨zyx81k E, List.forall_mem_cons.mpr ⟨zyx75k E, List.forall_mem_cons.mpr ⟨zyx69k E, List.forall_mem_cons.mpr ⟨zyx63k E, List.forall_mem_cons.mpr ⟨zyx57k E, List.forall_mem_cons.mpr ⟨zyx51k E, fun _ h => absurd h List.not_mem_nil⟩⟩⟩⟩⟩⟩) zyx81e
theorem zyx82e : zrunw zprog2 (zovW [zyx75d, zyx81d, zyx43d]) 100000 (zcutW [] none ((zyx82r, zyh276), 27, 3300) zyx82p) 27 3300 kX8_heldBy (zkin zyx82r zyh276) 0 (zargs 0 zyx82a, [], (zyh275.1, zyh275.2.1, 0), 0, 0) = true := zall_ok zyg2_ok (k := 90) (a := zbzyx82e) rfl
theorem zyx82 {l : Launch} {D : va_G} {tys : List (ClassId × FieldType)} {o : zO} {z : Nat} (E : zEnv tys) : zKnW l D vwCl tys o z (zXX o z) zTs zprog2 zyx82d :=
  zkn_mk E (fun g => List.forall_mem_cons.mpr ⟨zyx75 (o := zwith o g) E, List.forall_mem_cons.mpr ⟨zyx81 (o := zwith o g) E, List.forall_mem_cons.mpr ⟨zyx43 (o := zwith o g) E, fun _ h => absurd h List.not_mem_nil⟩⟩⟩) (show zget zprog2 229 = some mX8_heldBy from rfl) rfl (by decide) (by decide) (by decide) (by decide) (G := zyx82p) (fun _ h => absurd h List.not_mem_nil) zyx82e
theorem zyx83e : zrunw zprog2 (zovW []) 100000 zcut0 4 480 kX8_oneOf (zkinL zyx83q) 0 (zargs 0 zyx83a, [], (zyh272.1, zyh272.2.1, 0), 0, 0) = true := zall_ok zyg2_ok (k := 91) (a := zbzyx83e) rfl
theorem zyx83 {l : Launch} {D : va_G} {tys : List (ClassId × FieldType)} {o : zO} {z : Nat} (E : zEnv tys) : zKnW l D vwCl tys o z (zXX o z) zTs zprog2 zyx83d :=
  zkn_ml E (fun g => fun _ h => absurd h List.not_mem_nil) (show zget zprog2 260 = some mX8_oneOf from rfl) rfl (by decide) (by decide) (by decide) (by decide) zyx83e
theorem zyx84c : zchkX [] zprog2 (zovW [zyx83d]) 100000 kX8_number [] zyx84p zyx84p = true := zall_ok zyg2_ok (k := 92) (a := zbzyx84c) rfl
theorem zyx84e : zrunw zprog2 (zovW [zyx83d]) 100000 (zcutW [] none ((zyx84r, zyh273), 5, 600) zyx84p) 5 600 kX8_number (zkin zyx84r zyh273) 0 (zargs 0 zyx84a, [], (zyh272.1, zyh272.2.1, 0), 0, 0) = true := zall_ok zyg2_ok (k := 93) (a := zbzyx84e) rfl
theorem zyx84 {l : Launch} {D : va_G} {tys : List (ClassId × FieldType)} {o : zO} {z : Nat} (E : zEnv tys) : zKnW l D vwCl tys o z (zXX o z) zTs zprog2 zyx84d :=
  zkn_mk E (fun g => List.forall_mem_cons.mpr ⟨zyx83 (o := zwith o g) E, fun _ h => absurd h List.not_mem_nil⟩) (show zget zprog2 259 = some mX8_number from rfl) rfl (by decide) (by decide) (by decide) (by decide) (G := zyx84p) (zkn_pt E (fun g => List.forall_mem_cons.mpr ⟨zyx83 (o := zwith o g) E, fun _ h => absurd h List.not_mem_nil⟩) (show zget zprog2 259 = some mX8_number from rfl) (fun _ h => absurd h List.not_mem_nil) zyx84c) zyx84e
theorem zyx85e : zrunw zprog2 (zovW [zyx82d, zyx79d, zyx43d, zyx84d, zyx42d]) 100000 (zcutW [] none ((zyx85r, zyh273), 28, 3420) zyx85p) 28 3420 k2X8_thing (zkin zyx85r zyh273) 0 (zargs 0 zyx85a, [], (zyh272.1, zyh272.2.1, 0), 0, 0) = true := zall_ok zyg2_ok (k := 94) (a := zbzyx85e) rfl
theorem zyx85 {l : Launch} {D : va_G} {tys : List (ClassId × FieldType)} {o : zO} {z : Nat} (E : zEnv tys) : zKnW l D vwCl tys o z (zXX o z) zTs zprog2 zyx85d :=
  zkn_mk E (fun g => List.forall_mem_cons.mpr ⟨zyx82 (o := zwith o g) E, List.forall_mem_cons.mpr ⟨zyx79 (o := zwith o g) E, List.forall_mem_cons.mpr ⟨zyx43 (o := zwith o g) E, List.forall_mem_cons.mpr ⟨zyx84 (o := zwith o g) E, List.forall_mem_cons.mpr ⟨zyx42 (o := zwith o g) E, fun _ h => absurd h List.not_mem_nil⟩⟩⟩⟩⟩) (show zget zprog2 292 = some m2X8_thing from rfl) rfl (by decide) (by decide) (by decide) (by decide) (G := zyx85p) (fun _ h => absurd h List.not_mem_nil) zyx85e
theorem zyx86c : zchkX [(94, 15)] zprog2 (zovW [zyx79d, zyx85d]) 100000 k2X8_product [zyx80q, zyx74q, zyx68q, zyx62q, zyx56q, zyx50q] [zyx86q] [zyx86q] = true := zall_ok zyg2_ok (k := 95) (a := zbzyx86c) rfl
theorem zyx86k {l : Launch} {D : va_G} {tys : List (ClassId × FieldType)} {o : zO} {z : Nat} (E : zEnv tys) : zPtOk l D vwCl tys o z (zXX o z) zTs m2X8_product zyx86q := zkn_pt E (fun g => List.forall_mem_cons.mpr ⟨zyx79 (o := zwith o g) E, List.forall_mem_cons.mpr ⟨zyx85 (o := zwith o g) E, fun _ h => absurd h List.not_mem_nil⟩⟩) (show zget zprog2 265 = some m2X8_product from rfl) (List.forall_mem_cons.mpr ⟨zyx80k E, List.forall_mem_cons.mpr ⟨zyx74k E, List.forall_mem_cons.mpr ⟨zyx68k E, List.forall_mem_cons.mpr ⟨zyx62k E, List.forall_mem_cons.mpr ⟨zyx56k E, List.forall_mem_cons.mpr ⟨zyx50k E, fun _ h => absurd h List.not_mem_nil⟩⟩⟩⟩⟩⟩) zyx86c _ List.mem_cons_self
theorem zyx86e : zrunw zprog2 (zovW [zyx79d, zyx85d]) 100000 (zcutW [(94, 15)] none ((zyx86r, zyh273), 29, 3540) [zyx86q, zyx80q, zyx74q, zyx68q, zyx62q, zyx56q, zyx50q]) 29 3540 k2X8_product (zkin zyx86r zyh273) 0 (zargs 0 zyx86a, [], (zyh272.1, zyh272.2.1, 0), 0, 0) = true := zall_ok zyg2_ok (k := 96) (a := zbzyx86e) rfl
theorem zyx86 {l : Launch} {D : va_G} {tys : List (ClassId × FieldType)} {o : zO} {z : Nat} (E : zEnv tys) : zKnW l D vwCl tys o z (zXX o z) zTs zprog2 zyx86d :=
  zkn_mk E (fun g => List.forall_mem_cons.mpr ⟨zyx79 (o := zwith o g) E, List.forall_mem_cons.mpr ⟨zyx85 (o := zwith o g) E, fun _ h => absurd h List.not_mem_nil⟩⟩) (show zget zprog2 265 = some m2X8_product from rfl) rfl (by decide) (by decide) (by decide) (by decide) (G := [zyx86q, zyx80q, zyx74q, zyx68q, zyx62q, zyx56q, zyx50q]) (List.forall_mem_cons.mpr ⟨zyx86k E, List.forall_mem_cons.mpr ⟨zyx80k E, List.forall_mem_cons.mpr ⟨zyx74k E, List.forall_mem_cons.mpr ⟨zyx68k E, List.forall_mem_cons.mpr ⟨zyx62k E, List.forall_mem_cons.mpr ⟨zyx56k E, List.forall_mem_cons.mpr ⟨zyx50k E, fun _ h => absurd h List.not_mem_nil⟩⟩⟩⟩⟩⟩⟩) zyx86e
theorem zyx87c : zchkX [(94, 15)] zprog2 (zovW [zyx80d, zyx86d]) 100000 kX8_sum [zyx81q, zyx75q, zyx69q, zyx63q, zyx57q, zyx51q] [zyx87q] [zyx87q] = true := zall_ok zyg2_ok (k := 97) (a := zbzyx87c) rfl
theorem zyx87k {l : Launch} {D : va_G} {tys : List (ClassId × FieldType)} {o : zO} {z : Nat} (E : zEnv tys) : zPtOk l D vwCl tys o z (zXX o z) zTs mX8_sum zyx87q := zkn_pt E (fun g => List.forall_mem_cons.mpr ⟨zyx80 (o := zwith o g) E, List.forall_mem_cons.mpr ⟨zyx86 (o := zwith o g) E, fun _ h => absurd h List.not_mem_nil⟩⟩) (show zget zprog2 284 = some mX8_sum from rfl) (List.forall_mem_cons.mpr ⟨zyx81k E, List.forall_mem_cons.mpr ⟨zyx75k E, List.forall_mem_cons.mpr ⟨zyx69k E, List.forall_mem_cons.mpr ⟨zyx63k E, List.forall_mem_cons.mpr ⟨zyx57k E, List.forall_mem_cons.mpr ⟨zyx51k E, fun _ h => absurd h List.not_mem_nil⟩⟩⟩⟩⟩⟩) zyx87c _ List.mem_cons_self
theorem zyx87e : zrunw zprog2 (zovW [zyx80d, zyx86d]) 100000 (zcutW [(94, 15)] none ((zyx87r, zyh273), 30, 3660) [zyx87q, zyx81q, zyx75q, zyx69q, zyx63q, zyx57q, zyx51q]) 30 3660 kX8_sum (zkin zyx87r zyh273) 0 (zargs 0 zyx87a, [], (zyh272.1, zyh272.2.1, 0), 0, 0) = true := zall_ok zyg2_ok (k := 98) (a := zbzyx87e) rfl
theorem zyx87 {l : Launch} {D : va_G} {tys : List (ClassId × FieldType)} {o : zO} {z : Nat} (E : zEnv tys) : zKnW l D vwCl tys o z (zXX o z) zTs zprog2 zyx87d :=
  zkn_mk E (fun g => List.forall_mem_cons.mpr ⟨zyx80 (o := zwith o g) E, List.forall_mem_cons.mpr ⟨zyx86 (o := zwith o g) E, fun _ h => absurd h List.not_mem_nil⟩⟩) (show zget zprog2 284 = some mX8_sum from rfl) rfl (by decide) (by decide) (by decide) (by decide) (G := [zyx87q, zyx81q, zyx75q, zyx69q, zyx63q, zyx57q, zyx51q]) (List.forall_mem_cons.mpr ⟨zyx87k E, List.forall_mem_cons.mpr ⟨zyx81k E, List.forall_mem_cons.mpr ⟨zyx75k E, List.forall_mem_cons.mpr ⟨zyx69k E, List.forall_mem_cons.mpr ⟨zyx63k E, List.forall_mem_cons.mpr ⟨zyx57k E, List.forall_mem_cons.mpr ⟨zyx51k E, fun _ h => absurd h List.not_mem_nil⟩⟩⟩⟩⟩⟩⟩) zyx87e
theorem zyx88e : zrunw zprog2 (zovW [zyx81d, zyx87d, zyx42d]) 100000 (zcutW [] none ((zyx88r, zyh273), 31, 3780) zyx88p) 31 3780 kX8_heldBy (zkin zyx88r zyh273) 0 (zargs 0 zyx88a, [], (zyh272.1, zyh272.2.1, 0), 0, 0) = true := zall_ok zyg2_ok (k := 99) (a := zbzyx88e) rfl
theorem zyx88 {l : Launch} {D : va_G} {tys : List (ClassId × FieldType)} {o : zO} {z : Nat} (E : zEnv tys) : zKnW l D vwCl tys o z (zXX o z) zTs zprog2 zyx88d :=
  zkn_mk E (fun g => List.forall_mem_cons.mpr ⟨zyx81 (o := zwith o g) E, List.forall_mem_cons.mpr ⟨zyx87 (o := zwith o g) E, List.forall_mem_cons.mpr ⟨zyx42 (o := zwith o g) E, fun _ h => absurd h List.not_mem_nil⟩⟩⟩) (show zget zprog2 229 = some mX8_heldBy from rfl) rfl (by decide) (by decide) (by decide) (by decide) (G := zyx88p) (fun _ h => absurd h List.not_mem_nil) zyx88e
theorem zyx89e : zrunw zprog2 (zovW []) 100000 zcut0 4 480 kX8_oneOf (zkinL zyx89q) 0 (zargs 0 zyx89a, [], (zyh269.1, zyh269.2.1, 0), 0, 0) = true := zall_ok zyg2_ok (k := 100) (a := zbzyx89e) rfl
theorem zyx89 {l : Launch} {D : va_G} {tys : List (ClassId × FieldType)} {o : zO} {z : Nat} (E : zEnv tys) : zKnW l D vwCl tys o z (zXX o z) zTs zprog2 zyx89d :=
  zkn_ml E (fun g => fun _ h => absurd h List.not_mem_nil) (show zget zprog2 260 = some mX8_oneOf from rfl) rfl (by decide) (by decide) (by decide) (by decide) zyx89e
theorem zyx90c : zchkX [] zprog2 (zovW [zyx89d]) 100000 kX8_number [] zyx90p zyx90p = true := zall_ok zyg2_ok (k := 101) (a := zbzyx90c) rfl
theorem zyx90e : zrunw zprog2 (zovW [zyx89d]) 100000 (zcutW [] none ((zyx90r, zyh270), 5, 600) zyx90p) 5 600 kX8_number (zkin zyx90r zyh270) 0 (zargs 0 zyx90a, [], (zyh269.1, zyh269.2.1, 0), 0, 0) = true := zall_ok zyg2_ok (k := 102) (a := zbzyx90e) rfl
theorem zyx90 {l : Launch} {D : va_G} {tys : List (ClassId × FieldType)} {o : zO} {z : Nat} (E : zEnv tys) : zKnW l D vwCl tys o z (zXX o z) zTs zprog2 zyx90d :=
  zkn_mk E (fun g => List.forall_mem_cons.mpr ⟨zyx89 (o := zwith o g) E, fun _ h => absurd h List.not_mem_nil⟩) (show zget zprog2 259 = some mX8_number from rfl) rfl (by decide) (by decide) (by decide) (by decide) (G := zyx90p) (zkn_pt E (fun g => List.forall_mem_cons.mpr ⟨zyx89 (o := zwith o g) E, fun _ h => absurd h List.not_mem_nil⟩) (show zget zprog2 259 = some mX8_number from rfl) (fun _ h => absurd h List.not_mem_nil) zyx90c) zyx90e
theorem zyx91e : zrunw zprog2 (zovW [zyx88d, zyx85d, zyx42d, zyx90d, zyx41d]) 100000 (zcutW [] none ((zyx91r, zyh270), 32, 3900) zyx91p) 32 3900 k2X8_thing (zkin zyx91r zyh270) 0 (zargs 0 zyx91a, [], (zyh269.1, zyh269.2.1, 0), 0, 0) = true := zall_ok zyg2_ok (k := 103) (a := zbzyx91e) rfl
theorem zyx91 {l : Launch} {D : va_G} {tys : List (ClassId × FieldType)} {o : zO} {z : Nat} (E : zEnv tys) : zKnW l D vwCl tys o z (zXX o z) zTs zprog2 zyx91d :=
  zkn_mk E (fun g => List.forall_mem_cons.mpr ⟨zyx88 (o := zwith o g) E, List.forall_mem_cons.mpr ⟨zyx85 (o := zwith o g) E, List.forall_mem_cons.mpr ⟨zyx42 (o := zwith o g) E, List.forall_mem_cons.mpr ⟨zyx90 (o := zwith o g) E, List.forall_mem_cons.mpr ⟨zyx41 (o := zwith o g) E, fun _ h => absurd h List.not_mem_nil⟩⟩⟩⟩⟩) (show zget zprog2 292 = some m2X8_thing from rfl) rfl (by decide) (by decide) (by decide) (by decide) (G := zyx91p) (fun _ h => absurd h List.not_mem_nil) zyx91e
theorem zyx92c : zchkX [(94, 15)] zprog2 (zovW [zyx85d, zyx91d]) 100000 k2X8_product [zyx86q, zyx80q, zyx74q, zyx68q, zyx62q, zyx56q, zyx50q] [zyx92q] [zyx92q] = true := zall_ok zyg2_ok (k := 104) (a := zbzyx92c) rfl
theorem zyx92k {l : Launch} {D : va_G} {tys : List (ClassId × FieldType)} {o : zO} {z : Nat} (E : zEnv tys) : zPtOk l D vwCl tys o z (zXX o z) zTs m2X8_product zyx92q := zkn_pt E (fun g => List.forall_mem_cons.mpr ⟨zyx85 (o := zwith o g) E, List.forall_mem_cons.mpr ⟨zyx91 (o := zwith o g) E, fun _ h => absurd h List.not_mem_nil⟩⟩) (show zget zprog2 265 = some m2X8_product from rfl) (List.forall_mem_cons.mpr ⟨zyx86k E, List.forall_mem_cons.mpr ⟨zyx80k E, List.forall_mem_cons.mpr ⟨zyx74k E, List.forall_mem_cons.mpr ⟨zyx68k E, List.forall_mem_cons.mpr ⟨zyx62k E, List.forall_mem_cons.mpr ⟨zyx56k E, List.forall_mem_cons.mpr ⟨zyx50k E, fun _ h => absurd h List.not_mem_nil⟩⟩⟩⟩⟩⟩⟩) zyx92c _ List.mem_cons_self
theorem zyx92e : zrunw zprog2 (zovW [zyx85d, zyx91d]) 100000 (zcutW [(94, 15)] none ((zyx92r, zyh270), 33, 4020) [zyx92q, zyx86q, zyx80q, zyx74q, zyx68q, zyx62q, zyx56q, zyx50q]) 33 4020 k2X8_product (zkin zyx92r zyh270) 0 (zargs 0 zyx92a, [], (zyh269.1, zyh269.2.1, 0), 0, 0) = true := zall_ok zyg2_ok (k := 105) (a := zbzyx92e) rfl
theorem zyx92 {l : Launch} {D : va_G} {tys : List (ClassId × FieldType)} {o : zO} {z : Nat} (E : zEnv tys) : zKnW l D vwCl tys o z (zXX o z) zTs zprog2 zyx92d :=
  zkn_mk E (fun g => List.forall_mem_cons.mpr ⟨zyx85 (o := zwith o g) E, List.forall_mem_cons.mpr ⟨zyx91 (o := zwith o g) E, fun _ h => absurd h List.not_mem_nil⟩⟩) (show zget zprog2 265 = some m2X8_product from rfl) rfl (by decide) (by decide) (by decide) (by decide) (G := [zyx92q, zyx86q, zyx80q, zyx74q, zyx68q, zyx62q, zyx56q, zyx50q]) (List.forall_mem_cons.mpr ⟨zyx92k E, List.forall_mem_cons.mpr ⟨zyx86k E, List.forall_mem_cons.mpr ⟨zyx80k E, List.forall_mem_cons.mpr ⟨zyx74k E, List.forall_mem_cons.mpr ⟨zyx68k E, List.forall_mem_cons.mpr ⟨zyx62k E, List.forall_mem_cons.mpr ⟨zyx56k E, List.forall_mem_cons.mpr ⟨zyx50k E, fun _ h => absurd h List.not_mem_nil⟩⟩⟩⟩⟩⟩⟩⟩) zyx92e
theorem zyx93c : zchkX [(94, 15)] zprog2 (zovW [zyx86d, zyx92d]) 100000 kX8_sum [zyx87q, zyx81q, zyx75q, zyx69q, zyx63q, zyx57q, zyx51q] [zyx93q] [zyx93q] = true := zall_ok zyg2_ok (k := 106) (a := zbzyx93c) rfl
theorem zyx93k {l : Launch} {D : va_G} {tys : List (ClassId × FieldType)} {o : zO} {z : Nat} (E : zEnv tys) : zPtOk l D vwCl tys o z (zXX o z) zTs mX8_sum zyx93q := zkn_pt E (fun g => List.forall_mem_cons.mpr ⟨zyx86 (o := zwith o g) E, List.forall_mem_cons.mpr ⟨zyx92 (o := zwith o g) E, fun _ h => absurd h List.not_mem_nil⟩⟩) (show zget zprog2 284 = some mX8_sum from rfl) (List.forall_mem_cons.mpr ⟨zyx87k E, List.forall_mem_cons.mpr ⟨zyx81k E, List.forall_mem_cons.mpr ⟨zyx75k E, List.forall_mem_cons.mpr ⟨zyx69k E, List.forall_mem_cons.mpr ⟨zyx63k E, List.forall_mem_cons.mpr ⟨zyx57k E, List.forall_mem_cons.mpr ⟨zyx51k E, fun _ h => absurd h List.not_mem_nil⟩⟩⟩⟩⟩⟩⟩) zyx93c _ List.mem_cons_self
theorem zyx93e : zrunw zprog2 (zovW [zyx86d, zyx92d]) 100000 (zcutW [(94, 15)] none ((zyx93r, zyh270), 34, 4140) [zyx93q, zyx87q, zyx81q, zyx75q, zyx69q, zyx63q, zyx57q, zyx51q]) 34 4140 kX8_sum (zkin zyx93r zyh270) 0 (zargs 0 zyx93a, [], (zyh269.1, zyh269.2.1, 0), 0, 0) = true := zall_ok zyg2_ok (k := 107) (a := zbzyx93e) rfl
theorem zyx93 {l : Launch} {D : va_G} {tys : List (ClassId × FieldType)} {o : zO} {z : Nat} (E : zEnv tys) : zKnW l D vwCl tys o z (zXX o z) zTs zprog2 zyx93d :=
  zkn_mk E (fun g => List.forall_mem_cons.mpr ⟨zyx86 (o := zwith o g) E, List.forall_mem_cons.mpr ⟨zyx92 (o := zwith o g) E, fun _ h => absurd h List.not_mem_nil⟩⟩) (show zget zprog2 284 = some mX8_sum from rfl) rfl (by decide) (by decide) (by decide) (by decide) (G := [zyx93q, zyx87q, zyx81q, zyx75q, zyx69q, zyx63q, zyx57q, zyx51q]) (List.forall_mem_cons.mpr ⟨zyx93k E, List.forall_mem_cons.mpr ⟨zyx87k E, List.forall_mem_cons.mpr ⟨zyx81k E, List.forall_mem_cons.mpr ⟨zyx75k E, List.forall_mem_cons.mpr ⟨zyx69k E, List.forall_mem_cons.mpr ⟨zyx63k E, List.forall_mem_cons.mpr ⟨zyx57k E, List.forall_mem_cons.mpr ⟨zyx51k E, fun _ h => absurd h List.not_mem_nil⟩⟩⟩⟩⟩⟩⟩⟩) zyx93e
theorem zyx94e : zrunw zprog2 (zovW [zyx87d, zyx93d, zyx41d]) 100000 (zcutW [] none ((zyx94r, zyh270), 35, 4260) zyx94p) 35 4260 kX8_heldBy (zkin zyx94r zyh270) 0 (zargs 0 zyx94a, [], (zyh269.1, zyh269.2.1, 0), 0, 0) = true := zall_ok zyg2_ok (k := 108) (a := zbzyx94e) rfl
theorem zyx94 {l : Launch} {D : va_G} {tys : List (ClassId × FieldType)} {o : zO} {z : Nat} (E : zEnv tys) : zKnW l D vwCl tys o z (zXX o z) zTs zprog2 zyx94d :=
  zkn_mk E (fun g => List.forall_mem_cons.mpr ⟨zyx87 (o := zwith o g) E, List.forall_mem_cons.mpr ⟨zyx93 (o := zwith o g) E, List.forall_mem_cons.mpr ⟨zyx41 (o := zwith o g) E, fun _ h => absurd h List.not_mem_nil⟩⟩⟩) (show zget zprog2 229 = some mX8_heldBy from rfl) rfl (by decide) (by decide) (by decide) (by decide) (G := zyx94p) (fun _ h => absurd h List.not_mem_nil) zyx94e
theorem zyx95e : zrunw zprog2 (zovW []) 100000 zcut0 4 480 kX8_oneOf (zkinL zyx95q) 0 (zargs 0 zyx95a, [], (zyh266.1, zyh266.2.1, 0), 0, 0) = true := zall_ok zyg2_ok (k := 109) (a := zbzyx95e) rfl
theorem zyx95 {l : Launch} {D : va_G} {tys : List (ClassId × FieldType)} {o : zO} {z : Nat} (E : zEnv tys) : zKnW l D vwCl tys o z (zXX o z) zTs zprog2 zyx95d :=
  zkn_ml E (fun g => fun _ h => absurd h List.not_mem_nil) (show zget zprog2 260 = some mX8_oneOf from rfl) rfl (by decide) (by decide) (by decide) (by decide) zyx95e
theorem zyx96c : zchkX [] zprog2 (zovW [zyx95d]) 100000 kX8_number [] zyx96p zyx96p = true := zall_ok zyg2_ok (k := 110) (a := zbzyx96c) rfl
theorem zyx96e : zrunw zprog2 (zovW [zyx95d]) 100000 (zcutW [] none ((zyx96r, zyh267), 5, 600) zyx96p) 5 600 kX8_number (zkin zyx96r zyh267) 0 (zargs 0 zyx96a, [], (zyh266.1, zyh266.2.1, 0), 0, 0) = true := zall_ok zyg2_ok (k := 111) (a := zbzyx96e) rfl
theorem zyx96 {l : Launch} {D : va_G} {tys : List (ClassId × FieldType)} {o : zO} {z : Nat} (E : zEnv tys) : zKnW l D vwCl tys o z (zXX o z) zTs zprog2 zyx96d :=
  zkn_mk E (fun g => List.forall_mem_cons.mpr ⟨zyx95 (o := zwith o g) E, fun _ h => absurd h List.not_mem_nil⟩) (show zget zprog2 259 = some mX8_number from rfl) rfl (by decide) (by decide) (by decide) (by decide) (G := zyx96p) (zkn_pt E (fun g => List.forall_mem_cons.mpr ⟨zyx95 (o := zwith o g) E, fun _ h => absurd h List.not_mem_nil⟩) (show zget zprog2 259 = some mX8_number from rfl) (fun _ h => absurd h List.not_mem_nil) zyx96c) zyx96e
theorem zyx97e : zrunw zprog2 (zovW [zyx94d, zyx91d, zyx41d, zyx96d, zyx40d]) 100000 (zcutW [] none ((zyx97r, zyh267), 36, 4380) zyx97p) 36 4380 k2X8_thing (zkin zyx97r zyh267) 0 (zargs 0 zyx97a, [], (zyh266.1, zyh266.2.1, 0), 0, 0) = true := zall_ok zyg2_ok (k := 112) (a := zbzyx97e) rfl
theorem zyx97 {l : Launch} {D : va_G} {tys : List (ClassId × FieldType)} {o : zO} {z : Nat} (E : zEnv tys) : zKnW l D vwCl tys o z (zXX o z) zTs zprog2 zyx97d :=
  zkn_mk E (fun g => List.forall_mem_cons.mpr ⟨zyx94 (o := zwith o g) E, List.forall_mem_cons.mpr ⟨zyx91 (o := zwith o g) E, List.forall_mem_cons.mpr ⟨zyx41 (o := zwith o g) E, List.forall_mem_cons.mpr ⟨zyx96 (o := zwith o g) E, List.forall_mem_cons.mpr ⟨zyx40 (o := zwith o g) E, fun _ h => absurd h List.not_mem_nil⟩⟩⟩⟩⟩) (show zget zprog2 292 = some m2X8_thing from rfl) rfl (by decide) (by decide) (by decide) (by decide) (G := zyx97p) (fun _ h => absurd h List.not_mem_nil) zyx97e
theorem zyx98c : zchkX [(94, 15)] zprog2 (zovW [zyx91d, zyx97d]) 100000 k2X8_product [zyx92q, zyx86q, zyx80q, zyx74q, zyx68q, zyx62q, zyx56q, zyx50q] [zyx98q] [zyx98q] = true := zall_ok zyg2_ok (k := 113) (a := zbzyx98c) rfl
theorem zyx98k {l : Launch} {D : va_G} {tys : List (ClassId × FieldType)} {o : zO} {z : Nat} (E : zEnv tys) : zPtOk l D vwCl tys o z (zXX o z) zTs m2X8_product zyx98q := zkn_pt E (fun g => List.forall_mem_cons.mpr ⟨zyx91 (o := zwith o g) E, List.forall_mem_cons.mpr ⟨zyx97 (o := zwith o g) E, fun _ h => absurd h List.not_mem_nil⟩⟩) (show zget zprog2 265 = some m2X8_product from rfl) (List.forall_mem_cons.mpr ⟨zyx92k E, List.forall_mem_cons.mpr ⟨zyx86k E, List.forall_mem_cons.mpr ⟨zyx80k E, List.forall_mem_cons.mpr ⟨zyx74k E, List.forall_mem_cons.mpr ⟨zyx68k E, List.forall_mem_cons.mpr ⟨zyx62k E, List.forall_mem_cons.mpr ⟨zyx56k E, List.forall_mem_cons.mpr ⟨zyx50k E, fun _ h => absurd h List.not_mem_nil⟩⟩⟩⟩⟩⟩⟩⟩) zyx98c _ List.mem_cons_self
theorem zyx98e : zrunw zprog2 (zovW [zyx91d, zyx97d]) 100000 (zcutW [(94, 15)] none ((zyx98r, zyh267), 37, 4500) [zyx98q, zyx92q, zyx86q, zyx80q, zyx74q, zyx68q, zyx62q, zyx56q, zyx50q]) 37 4500 k2X8_product (zkin zyx98r zyh267) 0 (zargs 0 zyx98a, [], (zyh266.1, zyh266.2.1, 0), 0, 0) = true := zall_ok zyg2_ok (k := 114) (a := zbzyx98e) rfl
theorem zyx98 {l : Launch} {D : va_G} {tys : List (ClassId × FieldType)} {o : zO} {z : Nat} (E : zEnv tys) : zKnW l D vwCl tys o z (zXX o z) zTs zprog2 zyx98d :=
  zkn_mk E (fun g => List.forall_mem_cons.mpr ⟨zyx91 (o := zwith o g) E, List.forall_mem_cons.mpr ⟨zyx97 (o := zwith o g) E, fun _ h => absurd h List.not_mem_nil⟩⟩) (show zget zprog2 265 = some m2X8_product from rfl) rfl (by decide) (by decide) (by decide) (by decide) (G := [zyx98q, zyx92q, zyx86q, zyx80q, zyx74q, zyx68q, zyx62q, zyx56q, zyx50q]) (List.forall_mem_cons.mpr ⟨zyx98k E, List.forall_mem_cons.mpr ⟨zyx92k E, List.forall_mem_cons.mpr ⟨zyx86k E, List.forall_mem_cons.mpr ⟨zyx80k E, List.forall_mem_cons.mpr ⟨zyx74k E, List.forall_mem_cons.mpr ⟨zyx68k E, List.forall_mem_cons.mpr ⟨zyx62k E, List.forall_mem_cons.mpr ⟨zyx56k E, List.forall_mem_cons.mpr ⟨zyx50k E, fun _ h => absurd h List.not_mem_nil⟩⟩⟩⟩⟩⟩⟩⟩⟩) zyx98e
theorem zyx99c : zchkX [(94, 15)] zprog2 (zovW [zyx92d, zyx98d]) 100000 kX8_sum [zyx93q, zyx87q, zyx81q, zyx75q, zyx69q, zyx63q, zyx57q, zyx51q] [zyx99q] [zyx99q] = true := zall_ok zyg2_ok (k := 115) (a := zbzyx99c) rfl
theorem zyx99k {l : Launch} {D : va_G} {tys : List (ClassId × FieldType)} {o : zO} {z : Nat} (E : zEnv tys) : zPtOk l D vwCl tys o z (zXX o z) zTs mX8_sum zyx99q := zkn_pt E (fun g => List.forall_mem_cons.mpr ⟨zyx92 (o := zwith o g) E, List.forall_mem_cons.mpr ⟨zyx98 (o := zwith o g) E, fun _ h => absurd h List.not_mem_nil⟩⟩) (show zget zprog2 284 = some mX8_sum from rfl) (List.forall_mem_cons.mpr ⟨zyx93k E, List.forall_mem_cons.mpr ⟨zyx87k E, List.forall_mem_cons.mpr ⟨zyx81k E, List.forall_mem_cons.mpr ⟨zyx75k E, List.forall_mem_cons.mpr ⟨zyx69k E, List.forall_mem_cons.mpr ⟨zyx63k E, List.forall_mem_cons.mpr ⟨zyx57k E, List.forall_mem_cons.mpr ⟨zyx51k E, fun _ h => absurd h List.not_mem_nil⟩⟩⟩⟩⟩⟩⟩⟩) zyx99c _ List.mem_cons_self
theorem zyx99e : zrunw zprog2 (zovW [zyx92d, zyx98d]) 100000 (zcutW [(94, 15)] none ((zyx99r, zyh267), 38, 4620) [zyx99q, zyx93q, zyx87q, zyx81q, zyx75q, zyx69q, zyx63q, zyx57q, zyx51q]) 38 4620 kX8_sum (zkin zyx99r zyh267) 0 (zargs 0 zyx99a, [], (zyh266.1, zyh266.2.1, 0), 0, 0) = true := zall_ok zyg2_ok (k := 116) (a := zbzyx99e) rfl
theorem zyx99 {l : Launch} {D : va_G} {tys : List (ClassId × FieldType)} {o : zO} {z : Nat} (E : zEnv tys) : zKnW l D vwCl tys o z (zXX o z) zTs zprog2 zyx99d :=
  zkn_mk E (fun g => List.forall_mem_cons.mpr ⟨zyx92 (o := zwith o g) E, List.forall_mem_cons.mpr ⟨zyx98 (o := zwith o g) E, fun _ h => absurd h List.not_mem_nil⟩⟩) (show zget zprog2 284 = some mX8_sum from rfl) rfl (by decide) (by decide) (by decide) (by decide) (G := [zyx99q, zyx93q, zyx87q, zyx81q, zyx75q, zyx69q, zyx63q, zyx57q, zyx51q]) (List.forall_mem_cons.mpr ⟨zyx99k E, List.forall_mem_cons.mpr ⟨zyx93k E, List.forall_mem_cons.mpr ⟨zyx87k E, List.forall_mem_cons.mpr ⟨zyx81k E, List.forall_mem_cons.mpr ⟨zyx75k E, List.forall_mem_cons.mpr ⟨zyx69k E, List.forall_mem_cons.mpr ⟨zyx63k E, List.forall_mem_cons.mpr ⟨zyx57k E, List.forall_mem_cons.mpr ⟨zyx51k E, fun _ h => absurd h List.not_mem_nil⟩⟩⟩⟩⟩⟩⟩⟩⟩) zyx99e
theorem zyx100e : zrunw zprog2 (zovW [zyx93d, zyx99d, zyx40d]) 100000 (zcutW [] none ((zyx100r, zyh267), 39, 4740) zyx100p) 39 4740 kX8_heldBy (zkin zyx100r zyh267) 0 (zargs 0 zyx100a, [], (zyh266.1, zyh266.2.1, 0), 0, 0) = true := zall_ok zyg2_ok (k := 117) (a := zbzyx100e) rfl
theorem zyx100 {l : Launch} {D : va_G} {tys : List (ClassId × FieldType)} {o : zO} {z : Nat} (E : zEnv tys) : zKnW l D vwCl tys o z (zXX o z) zTs zprog2 zyx100d :=
  zkn_mk E (fun g => List.forall_mem_cons.mpr ⟨zyx93 (o := zwith o g) E, List.forall_mem_cons.mpr ⟨zyx99 (o := zwith o g) E, List.forall_mem_cons.mpr ⟨zyx40 (o := zwith o g) E, fun _ h => absurd h List.not_mem_nil⟩⟩⟩) (show zget zprog2 229 = some mX8_heldBy from rfl) rfl (by decide) (by decide) (by decide) (by decide) (G := zyx100p) (fun _ h => absurd h List.not_mem_nil) zyx100e
theorem zyx101e : zrunw zprog2 (zovW []) 100000 zcut0 4 480 kX8_oneOf (zkinL zyx101q) 0 (zargs 0 zyx101a, [], (zyh263.1, zyh263.2.1, 0), 0, 0) = true := zall_ok zyg2_ok (k := 118) (a := zbzyx101e) rfl
theorem zyx101 {l : Launch} {D : va_G} {tys : List (ClassId × FieldType)} {o : zO} {z : Nat} (E : zEnv tys) : zKnW l D vwCl tys o z (zXX o z) zTs zprog2 zyx101d :=
  zkn_ml E (fun g => fun _ h => absurd h List.not_mem_nil) (show zget zprog2 260 = some mX8_oneOf from rfl) rfl (by decide) (by decide) (by decide) (by decide) zyx101e
theorem zyx102c : zchkX [] zprog2 (zovW [zyx101d]) 100000 kX8_number [] zyx102p zyx102p = true := zall_ok zyg2_ok (k := 119) (a := zbzyx102c) rfl
theorem zyx102e : zrunw zprog2 (zovW [zyx101d]) 100000 (zcutW [] none ((zyx102r, zyh264), 5, 600) zyx102p) 5 600 kX8_number (zkin zyx102r zyh264) 0 (zargs 0 zyx102a, [], (zyh263.1, zyh263.2.1, 0), 0, 0) = true := zall_ok zyg2_ok (k := 120) (a := zbzyx102e) rfl
theorem zyx102 {l : Launch} {D : va_G} {tys : List (ClassId × FieldType)} {o : zO} {z : Nat} (E : zEnv tys) : zKnW l D vwCl tys o z (zXX o z) zTs zprog2 zyx102d :=
  zkn_mk E (fun g => List.forall_mem_cons.mpr ⟨zyx101 (o := zwith o g) E, fun _ h => absurd h List.not_mem_nil⟩) (show zget zprog2 259 = some mX8_number from rfl) rfl (by decide) (by decide) (by decide) (by decide) (G := zyx102p) (zkn_pt E (fun g => List.forall_mem_cons.mpr ⟨zyx101 (o := zwith o g) E, fun _ h => absurd h List.not_mem_nil⟩) (show zget zprog2 259 = some mX8_number from rfl) (fun _ h => absurd h List.not_mem_nil) zyx102c) zyx102e
theorem zyx103e : zrunw zprog2 (zovW [zyx100d, zyx97d, zyx40d, zyx102d, zyx39d]) 100000 (zcutW [] none ((zyx103r, zyh264), 40, 4860) zyx103p) 40 4860 k2X8_thing (zkin zyx103r zyh264) 0 (zargs 0 zyx103a, [], (zyh263.1, zyh263.2.1, 0), 0, 0) = true := zall_ok zyg2_ok (k := 121) (a := zbzyx103e) rfl
theorem zyx103 {l : Launch} {D : va_G} {tys : List (ClassId × FieldType)} {o : zO} {z : Nat} (E : zEnv tys) : zKnW l D vwCl tys o z (zXX o z) zTs zprog2 zyx103d :=
  zkn_mk E (fun g => List.forall_mem_cons.mpr ⟨zyx100 (o := zwith o g) E, List.forall_mem_cons.mpr ⟨zyx97 (o := zwith o g) E, List.forall_mem_cons.mpr ⟨zyx40 (o := zwith o g) E, List.forall_mem_cons.mpr ⟨zyx102 (o := zwith o g) E, List.forall_mem_cons.mpr ⟨zyx39 (o := zwith o g) E, fun _ h => absurd h List.not_mem_nil⟩⟩⟩⟩⟩) (show zget zprog2 292 = some m2X8_thing from rfl) rfl (by decide) (by decide) (by decide) (by decide) (G := zyx103p) (fun _ h => absurd h List.not_mem_nil) zyx103e
theorem zyx104c : zchkX [(94, 15)] zprog2 (zovW [zyx97d, zyx103d]) 100000 k2X8_product [zyx98q, zyx92q, zyx86q, zyx80q, zyx74q, zyx68q, zyx62q, zyx56q, zyx50q] [zyx104q] [zyx104q] = true := zall_ok zyg2_ok (k := 122) (a := zbzyx104c) rfl
theorem zyx104k {l : Launch} {D : va_G} {tys : List (ClassId × FieldType)} {o : zO} {z : Nat} (E : zEnv tys) : zPtOk l D vwCl tys o z (zXX o z) zTs m2X8_product zyx104q := zkn_pt E (fun g => List.forall_mem_cons.mpr ⟨zyx97 (o := zwith o g) E, List.forall_mem_cons.mpr ⟨zyx103 (o := zwith o g) E, fun _ h => absurd h List.not_mem_nil⟩⟩) (show zget zprog2 265 = some m2X8_product from rfl) (List.forall_mem_cons.mpr ⟨zyx98k E, List.forall_mem_cons.mpr ⟨zyx92k E, List.forall_mem_cons.mpr ⟨zyx86k E, List.forall_mem_cons.mpr ⟨zyx80k E, List.forall_mem_cons.mpr ⟨zyx74k E, List.forall_mem_cons.mpr ⟨zyx68k E, List.forall_mem_cons.mpr ⟨zyx62k E, List.forall_mem_cons.mpr ⟨zyx56k E, List.forall_mem_cons.mpr ⟨zyx50k E, fun _ h => absurd h List.not_mem_nil⟩⟩⟩⟩⟩⟩⟩⟩⟩) zyx104c _ List.mem_cons_self
theorem zyx104e : zrunw zprog2 (zovW [zyx97d, zyx103d]) 100000 (zcutW [(94, 15)] none ((zyx104r, zyh264), 41, 4980) [zyx104q, zyx98q, zyx92q, zyx86q, zyx80q, zyx74q, zyx68q, zyx62q, zyx56q, zyx50q]) 41 4980 k2X8_product (zkin zyx104r zyh264) 0 (zargs 0 zyx104a, [], (zyh263.1, zyh263.2.1, 0), 0, 0) = true := zall_ok zyg2_ok (k := 123) (a := zbzyx104e) rfl
theorem zyx104 {l : Launch} {D : va_G} {tys : List (ClassId × FieldType)} {o : zO} {z : Nat} (E : zEnv tys) : zKnW l D vwCl tys o z (zXX o z) zTs zprog2 zyx104d :=
  zkn_mk E (fun g => List.forall_mem_cons.mpr ⟨zyx97 (o := zwith o g) E, List.forall_mem_cons.mpr ⟨zyx103 (o := zwith o g) E, fun _ h => absurd h List.not_mem_nil⟩⟩) (show zget zprog2 265 = some m2X8_product from rfl) rfl (by decide) (by decide) (by decide) (by decide) (G := [zyx104q, zyx98q, zyx92q, zyx86q, zyx80q, zyx74q, zyx68q, zyx62q, zyx56q, zyx50q]) (List.forall_mem_cons.mpr ⟨zyx104k E, List.forall_mem_cons.mpr ⟨zyx98k E, List.forall_mem_cons.mpr ⟨zyx92k E, List.forall_mem_cons.mpr ⟨zyx86k E, List.forall_mem_cons.mpr ⟨zyx80k E, List.forall_mem_cons.mpr ⟨zyx74k E, List.forall_mem_cons.mpr ⟨zyx68k E, List.forall_mem_cons.mpr ⟨zyx62k E, List.forall_mem_cons.mpr ⟨zyx56k E, List.forall_mem_cons.mpr ⟨zyx50k E, fun _ h => absurd h List.not_mem_nil⟩⟩⟩⟩⟩⟩⟩⟩⟩⟩) zyx104e

