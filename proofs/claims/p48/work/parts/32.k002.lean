noncomputable def zyc236 : zC := .inr (7, [zyv120, zyv120, zyv120, zyv120, zyv120, zyv120, zyv120, zyv120, zyv120, zyv120, zyv120, zyv120, zyv120, zyv15, zyv120, zyv15])
noncomputable def zyc237 : zC := .inr (6, [zyv120, zyv15])
noncomputable def zyc238 : zC := .inl (0, 80, [[], [zyv15]])
noncomputable def zyc239 : zC := .inr (0, [zyv120, zyv120, zyv120, zyv120, zyv120, zyv120, zyv15, zyv15, zyv15, zyv120, zyv15, zyv15])
noncomputable def zyc240 : zC := .inr (3, [zyv120, zyv120, zyv120, zyv120, zyv15, zyv15, zyv15, zyv15, zyv36])
noncomputable def zyc241 : zC := .inr (5, [zyv120, zyv120, zyv15, zyv15, zyv15, zyv15])
noncomputable def zyc242 : zC := .inr (2, [zyv120, zyv15, zyv15])
noncomputable def zyc243 : zC := .inl (9, 12, [[], [zyv120]])
noncomputable def zyc244 : zC := .inl (9, 2, [[], [zyv120]])
noncomputable def zyc245 : zC := .inr (4, [zyv120, zyv120, zyv120, zyv120, zyv120, zyv120, zyv120, zyv120, zyv120, zyv120, zyv120, zyv120, zyv120, zyv15, zyv100])
noncomputable def zyc246 : zC := .inl (1, 64, [[], [zyv100]])
noncomputable def zyc247 : zC := .inr (1, [zyv120, zyv15])
noncomputable def zyc248 : zC := .inl (0, 12, [[], [zyv15]])
def zyv319 : zAV := .inl ((.ofNat 40, .ofNat 40), none)
noncomputable def zyc249 : zC := .inr (8, [zyv120, zyv15, zyv15, zyv15, zyv120, zyv120, zyv120, zyv120, zyv15, zyv120, zyv15, zyv15, zyv118, zyv17, zyv319, zyv35, zyv122, zyv120, zyv120, zyv120, zyv15, zyv36, zyv127, zyv120, zyv15, zyv120, zyv120, zyv15, zyv15, zyv120, zyv120, zyv120, zyv120, zyv120, zyv120, zyv120, zyv120, zyv120, zyv120, zyv15, zyv120, zyv120, zyv120, zyv120, zyv15, zyv15, zyv15, zyv15, zyv120, zyv120, zyv120])
noncomputable def zyc250 : zC := .inl (0, 27, [[], [zyv15]])
noncomputable def zyc251 : zC := .inl (3, 80, [[], [zyv150]])
noncomputable def zyc252 : zC := .inl (0, 24, [[], [zyv15]])
noncomputable def zyc253 : zC := .inl (0, 324, [[], [zyv15]])
noncomputable def zyc254 : zC := .inl (0, 240, [[], [zyv15]])
noncomputable def zyc255 : zC := .inl (0, 54, [[], [zyv15]])
noncomputable def zyc256 : zC := .inl (1, 1, [[], [zyv100]])
noncomputable def zyr178 : List zC := [zyc236, zyc237, zyc238, zyc239, zyc8, zyc8, zyc8, zyc57, zyc8, zyc8, zyc240, zyc10, zyc10, zyc10, zyc12, zyc241]
noncomputable def zyr179 : List zC := [zyc8, zyc8, zyc241, zyc8, zyc8, zyc241, zyc8, zyc8, zyc242, zyc243, zyc241, zyc8, zyc8, zyc241, zyc8, zyc8]
noncomputable def zyr180 : List zC := [zyc241, zyc8, zyc8, zyc241, zyc8, zyc8, zyc241, zyc8, zyc8, zyc241, zyc8, zyc8, zyc241, zyc8, zyc8, zyc241]
noncomputable def zyr181 : List zC := [zyc8, zyc8, zyc241, zyc8, zyc8, zyc241, zyc8, zyc8, zyc241, zyc8, zyc8, zyc241, zyc8, zyc8, zyc244, zyc33]
noncomputable def zyr182 : List zC := [zyc245, zyc8, zyc8, zyc8, zyc8, zyc246, zyc45, zyc39, zyc39, zyc40, zyc41, zyc42, zyc43, zyc41, zyc247, zyc45]
noncomputable def zyr183 : List zC := [zyc248, zyc248, zyc248, zyc240, zyc10, zyc10, zyc10, zyc12, zyc241, zyc8, zyc8, zyc241, zyc8, zyc8, zyc249, zyc250]
noncomputable def zyr184 : List zC := [zyc8, zyc8, zyc8, zyc251, zyc54, zyc252, zyc56, zyc56, zyc57, zyc253, zyc250, zyc250, zyc8, zyc8, zyc254, zyc8]
noncomputable def zyr185 : List zC := [zyc8, zyc8, zyc8, zyc42, zyc40, zyc40, zyc8, zyc43, zyc248, zyc248, zyc255, zyc33, zyc64, zyc256, zycF, zycF]
noncomputable def zyh173 : zH := (126, [zyr178, zyr179, zyr180, zyr181, zyr182, zyr183, zyr184, zyr185], 0)
def zyv320 : zAV := .inr (.inr (.inl 94))
def zyv321 : zAV := .inl ((.ofNat 45, .ofNat 62), none)
def zym9 : Nat := 3250153327227387274337938380308448254054673276062415966014721779609453776834731879363176315854865751896630765431631663750994095483847257492217239759169327354085567292427290857702958577046785979365169026644473165677885990734060991245462111171129144112187083469588697873143346091702785367406464251340486268666506589553580517285723568082407256005314502381814307595276731881913582816514493357398043130815363099876848116318542476835784503362431594492282508240198771488012770955194060641323479421349537955481425671988821961221440562689536758715835035876610662289649648856077227433960558218187855179854638073020443536232027926488509799190095565455087426635805309303343705785269004582272915673125166026442974315279451508800295248195782345946473937301284915199693170211939613829325163420366167098364148877346135941070385059897335635407359167527197013854872115824350779875163987385374477618994622822559358817597108774024961660481836691389298850671081239101601144575695932176625152660453907731580737018812740667510231387376064514605252140441701369926277153647213486584108382631688271178955867737519690862841099984564324967318886481549159433054237942513480250721719954687312879308821871109220748686383283068373237025937337152052734676335783761300523556350647988252068388001204435771445450250900609338519932652126360942037515429961071380425622356671513957449892419640591780307080957448360859503548843190915401925618715131338056874714247270074128688933200432153602962217094282775387320832863432570115757840927985342062176510062427119005381887773614389815404110127393782118073990813245288887266012284634616049488807090355060447586330549103073376839150156652755992714580984438093081842606154374505109741977194201163471922840285901867511597222079525707271335576523465376044234072723566612499463376662611375877856668471773345399963648
noncomputable def zyh174 : zH := (126, [zyr178, zyr179, zyr180, zyr181, zyr182, zyr183, zyr184, zyr185], zym9)
def zyv322 : zAV := .inl ((.ofNat 1, .ofNat 40), none)
noncomputable def zyc257 : zC := .inr (8, [zyv120, zyv15, zyv15, zyv15, zyv120, zyv120, zyv120, zyv120, zyv15, zyv120, zyv15, zyv15, zyv118, zyv17, zyv319, zyv322, zyv166, zyv120, zyv120, zyv120, zyv15, zyv36, zyv127, zyv120, zyv15, zyv120, zyv120, zyv15, zyv15, zyv120, zyv120, zyv120, zyv120, zyv120, zyv120, zyv120, zyv120, zyv120, zyv120, zyv15, zyv120, zyv120, zyv120, zyv120, zyv15, zyv15, zyv15, zyv15, zyv120, zyv120, zyv120])
noncomputable def zyr186 : List zC := [zyc248, zyc248, zyc248, zyc240, zyc10, zyc10, zyc10, zyc12, zyc241, zyc8, zyc8, zyc241, zyc8, zyc8, zyc257, zyc250]
noncomputable def zyh175 : zH := (126, [zyr178, zyr179, zyr180, zyr181, zyr182, zyr186, zyr184, zyr185], zym9)
noncomputable def zyc258 : zC := .inr (8, [zyv120, zyv15, zyv15, zyv15, zyv120, zyv120, zyv120, zyv120, zyv15, zyv120, zyv15, zyv15, zyv118, zyv17, zyv319, zyv322, zyv122, zyv120, zyv120, zyv120, zyv15, zyv36, zyv127, zyv120, zyv15, zyv120, zyv120, zyv15, zyv15, zyv120, zyv120, zyv120, zyv120, zyv120, zyv120, zyv120, zyv120, zyv120, zyv120, zyv15, zyv120, zyv120, zyv120, zyv120, zyv15, zyv15, zyv15, zyv15, zyv120, zyv120, zyv120])
noncomputable def zyr187 : List zC := [zyc248, zyc248, zyc248, zyc240, zyc10, zyc10, zyc10, zyc12, zyc241, zyc8, zyc8, zyc241, zyc8, zyc8, zyc258, zyc250]
noncomputable def zyh176 : zH := (126, [zyr178, zyr179, zyr180, zyr181, zyr182, zyr187, zyr184, zyr185], 0)
def zyv323 : zAV := .inl ((.ofNat 41, .ofNat 62), none)
noncomputable def zyh177 : zH := (126, [zyr178, zyr179, zyr180, zyr181, zyr182, zyr187, zyr184, zyr185], zym9)
def zyv324 : zAV := .inl ((.ofNat 2, .ofNat 40), none)
noncomputable def zyc259 : zC := .inr (8, [zyv120, zyv15, zyv15, zyv15, zyv120, zyv120, zyv120, zyv120, zyv15, zyv120, zyv15, zyv15, zyv118, zyv17, zyv319, zyv324, zyv166, zyv120, zyv120, zyv120, zyv15, zyv36, zyv127, zyv120, zyv15, zyv120, zyv120, zyv15, zyv15, zyv120, zyv120, zyv120, zyv120, zyv120, zyv120, zyv120, zyv120, zyv120, zyv120, zyv15, zyv120, zyv120, zyv120, zyv120, zyv15, zyv15, zyv15, zyv15, zyv120, zyv120, zyv120])
noncomputable def zyr188 : List zC := [zyc248, zyc248, zyc248, zyc240, zyc10, zyc10, zyc10, zyc12, zyc241, zyc8, zyc8, zyc241, zyc8, zyc8, zyc259, zyc250]
noncomputable def zyh178 : zH := (126, [zyr178, zyr179, zyr180, zyr181, zyr182, zyr188, zyr184, zyr185], zym9)
noncomputable def zyc260 : zC := .inr (8, [zyv120, zyv15, zyv15, zyv15, zyv120, zyv120, zyv120, zyv120, zyv15, zyv120, zyv15, zyv15, zyv118, zyv17, zyv319, zyv324, zyv122, zyv120, zyv120, zyv120, zyv15, zyv36, zyv127, zyv120, zyv15, zyv120, zyv120, zyv15, zyv15, zyv120, zyv120, zyv120, zyv120, zyv120, zyv120, zyv120, zyv120, zyv120, zyv120, zyv15, zyv120, zyv120, zyv120, zyv120, zyv15, zyv15, zyv15, zyv15, zyv120, zyv120, zyv120])
noncomputable def zyr189 : List zC := [zyc248, zyc248, zyc248, zyc240, zyc10, zyc10, zyc10, zyc12, zyc241, zyc8, zyc8, zyc241, zyc8, zyc8, zyc260, zyc250]
noncomputable def zyh179 : zH := (126, [zyr178, zyr179, zyr180, zyr181, zyr182, zyr189, zyr184, zyr185], 0)
noncomputable def zyh180 : zH := (126, [zyr178, zyr179, zyr180, zyr181, zyr182, zyr189, zyr184, zyr185], zym9)
def zyv325 : zAV := .inl ((.ofNat 3, .ofNat 40), none)
noncomputable def zyc261 : zC := .inr (8, [zyv120, zyv15, zyv15, zyv15, zyv120, zyv120, zyv120, zyv120, zyv15, zyv120, zyv15, zyv15, zyv118, zyv17, zyv319, zyv325, zyv166, zyv120, zyv120, zyv120, zyv15, zyv36, zyv127, zyv120, zyv15, zyv120, zyv120, zyv15, zyv15, zyv120, zyv120, zyv120, zyv120, zyv120, zyv120, zyv120, zyv120, zyv120, zyv120, zyv15, zyv120, zyv120, zyv120, zyv120, zyv15, zyv15, zyv15, zyv15, zyv120, zyv120, zyv120])
noncomputable def zyr190 : List zC := [zyc248, zyc248, zyc248, zyc240, zyc10, zyc10, zyc10, zyc12, zyc241, zyc8, zyc8, zyc241, zyc8, zyc8, zyc261, zyc250]
noncomputable def zyh181 : zH := (126, [zyr178, zyr179, zyr180, zyr181, zyr182, zyr190, zyr184, zyr185], zym9)
noncomputable def zyc262 : zC := .inr (8, [zyv120, zyv15, zyv15, zyv15, zyv120, zyv120, zyv120, zyv120, zyv15, zyv120, zyv15, zyv15, zyv118, zyv17, zyv319, zyv325, zyv122, zyv120, zyv120, zyv120, zyv15, zyv36, zyv127, zyv120, zyv15, zyv120, zyv120, zyv15, zyv15, zyv120, zyv120, zyv120, zyv120, zyv120, zyv120, zyv120, zyv120, zyv120, zyv120, zyv15, zyv120, zyv120, zyv120, zyv120, zyv15, zyv15, zyv15, zyv15, zyv120, zyv120, zyv120])
noncomputable def zyr191 : List zC := [zyc248, zyc248, zyc248, zyc240, zyc10, zyc10, zyc10, zyc12, zyc241, zyc8, zyc8, zyc241, zyc8, zyc8, zyc262, zyc250]
noncomputable def zyh182 : zH := (126, [zyr178, zyr179, zyr180, zyr181, zyr182, zyr191, zyr184, zyr185], 0)
noncomputable def zyh183 : zH := (126, [zyr178, zyr179, zyr180, zyr181, zyr182, zyr191, zyr184, zyr185], zym9)
def zyv326 : zAV := .inl ((.ofNat 4, .ofNat 40), none)
noncomputable def zyc263 : zC := .inr (8, [zyv120, zyv15, zyv15, zyv15, zyv120, zyv120, zyv120, zyv120, zyv15, zyv120, zyv15, zyv15, zyv118, zyv17, zyv319, zyv326, zyv166, zyv120, zyv120, zyv120, zyv15, zyv36, zyv127, zyv120, zyv15, zyv120, zyv120, zyv15, zyv15, zyv120, zyv120, zyv120, zyv120, zyv120, zyv120, zyv120, zyv120, zyv120, zyv120, zyv15, zyv120, zyv120, zyv120, zyv120, zyv15, zyv15, zyv15, zyv15, zyv120, zyv120, zyv120])
noncomputable def zyr192 : List zC := [zyc248, zyc248, zyc248, zyc240, zyc10, zyc10, zyc10, zyc12, zyc241, zyc8, zyc8, zyc241, zyc8, zyc8, zyc263, zyc250]
noncomputable def zyh184 : zH := (126, [zyr178, zyr179, zyr180, zyr181, zyr182, zyr192, zyr184, zyr185], zym9)
noncomputable def zyc264 : zC := .inr (8, [zyv120, zyv15, zyv15, zyv15, zyv120, zyv120, zyv120, zyv120, zyv15, zyv120, zyv15, zyv15, zyv118, zyv17, zyv319, zyv326, zyv122, zyv120, zyv120, zyv120, zyv15, zyv36, zyv127, zyv120, zyv15, zyv120, zyv120, zyv15, zyv15, zyv120, zyv120, zyv120, zyv120, zyv120, zyv120, zyv120, zyv120, zyv120, zyv120, zyv15, zyv120, zyv120, zyv120, zyv120, zyv15, zyv15, zyv15, zyv15, zyv120, zyv120, zyv120])
noncomputable def zyr193 : List zC := [zyc248, zyc248, zyc248, zyc240, zyc10, zyc10, zyc10, zyc12, zyc241, zyc8, zyc8, zyc241, zyc8, zyc8, zyc264, zyc250]
noncomputable def zyh185 : zH := (126, [zyr178, zyr179, zyr180, zyr181, zyr182, zyr193, zyr184, zyr185], 0)
noncomputable def zyh186 : zH := (126, [zyr178, zyr179, zyr180, zyr181, zyr182, zyr193, zyr184, zyr185], zym9)
def zyv327 : zAV := .inl ((.ofNat 5, .ofNat 40), none)
noncomputable def zyc265 : zC := .inr (8, [zyv120, zyv15, zyv15, zyv15, zyv120, zyv120, zyv120, zyv120, zyv15, zyv120, zyv15, zyv15, zyv118, zyv17, zyv319, zyv327, zyv166, zyv120, zyv120, zyv120, zyv15, zyv36, zyv127, zyv120, zyv15, zyv120, zyv120, zyv15, zyv15, zyv120, zyv120, zyv120, zyv120, zyv120, zyv120, zyv120, zyv120, zyv120, zyv120, zyv15, zyv120, zyv120, zyv120, zyv120, zyv15, zyv15, zyv15, zyv15, zyv120, zyv120, zyv120])
noncomputable def zyr194 : List zC := [zyc248, zyc248, zyc248, zyc240, zyc10, zyc10, zyc10, zyc12, zyc241, zyc8, zyc8, zyc241, zyc8, zyc8, zyc265, zyc250]
noncomputable def zyh187 : zH := (126, [zyr178, zyr179, zyr180, zyr181, zyr182, zyr194, zyr184, zyr185], zym9)
noncomputable def zyc266 : zC := .inr (8, [zyv120, zyv15, zyv15, zyv15, zyv120, zyv120, zyv120, zyv120, zyv15, zyv120, zyv15, zyv15, zyv118, zyv17, zyv319, zyv327, zyv122, zyv120, zyv120, zyv120, zyv15, zyv36, zyv127, zyv120, zyv15, zyv120, zyv120, zyv15, zyv15, zyv120, zyv120, zyv120, zyv120, zyv120, zyv120, zyv120, zyv120, zyv120, zyv120, zyv15, zyv120, zyv120, zyv120, zyv120, zyv15, zyv15, zyv15, zyv15, zyv120, zyv120, zyv120])
noncomputable def zyr195 : List zC := [zyc248, zyc248, zyc248, zyc240, zyc10, zyc10, zyc10, zyc12, zyc241, zyc8, zyc8, zyc241, zyc8, zyc8, zyc266, zyc250]
noncomputable def zyh188 : zH := (126, [zyr178, zyr179, zyr180, zyr181, zyr182, zyr195, zyr184, zyr185], 0)
noncomputable def zyh189 : zH := (126, [zyr178, zyr179, zyr180, zyr181, zyr182, zyr195, zyr184, zyr185], zym9)
def zyv328 : zAV := .inl ((.ofNat 6, .ofNat 40), none)
noncomputable def zyc267 : zC := .inr (8, [zyv120, zyv15, zyv15, zyv15, zyv120, zyv120, zyv120, zyv120, zyv15, zyv120, zyv15, zyv15, zyv118, zyv17, zyv319, zyv328, zyv166, zyv120, zyv120, zyv120, zyv15, zyv36, zyv127, zyv120, zyv15, zyv120, zyv120, zyv15, zyv15, zyv120, zyv120, zyv120, zyv120, zyv120, zyv120, zyv120, zyv120, zyv120, zyv120, zyv15, zyv120, zyv120, zyv120, zyv120, zyv15, zyv15, zyv15, zyv15, zyv120, zyv120, zyv120])
noncomputable def zyr196 : List zC := [zyc248, zyc248, zyc248, zyc240, zyc10, zyc10, zyc10, zyc12, zyc241, zyc8, zyc8, zyc241, zyc8, zyc8, zyc267, zyc250]
noncomputable def zyh190 : zH := (126, [zyr178, zyr179, zyr180, zyr181, zyr182, zyr196, zyr184, zyr185], zym9)
noncomputable def zyc268 : zC := .inr (8, [zyv120, zyv15, zyv15, zyv15, zyv120, zyv120, zyv120, zyv120, zyv15, zyv120, zyv15, zyv15, zyv118, zyv17, zyv319, zyv328, zyv122, zyv120, zyv120, zyv120, zyv15, zyv36, zyv127, zyv120, zyv15, zyv120, zyv120, zyv15, zyv15, zyv120, zyv120, zyv120, zyv120, zyv120, zyv120, zyv120, zyv120, zyv120, zyv120, zyv15, zyv120, zyv120, zyv120, zyv120, zyv15, zyv15, zyv15, zyv15, zyv120, zyv120, zyv120])
noncomputable def zyr197 : List zC := [zyc248, zyc248, zyc248, zyc240, zyc10, zyc10, zyc10, zyc12, zyc241, zyc8, zyc8, zyc241, zyc8, zyc8, zyc268, zyc250]
noncomputable def zyh191 : zH := (126, [zyr178, zyr179, zyr180, zyr181, zyr182, zyr197, zyr184, zyr185], 0)
noncomputable def zyh192 : zH := (126, [zyr178, zyr179, zyr180, zyr181, zyr182, zyr197, zyr184, zyr185], zym9)
def zyv329 : zAV := .inl ((.ofNat 7, .ofNat 40), none)
noncomputable def zyc269 : zC := .inr (8, [zyv120, zyv15, zyv15, zyv15, zyv120, zyv120, zyv120, zyv120, zyv15, zyv120, zyv15, zyv15, zyv118, zyv17, zyv319, zyv329, zyv166, zyv120, zyv120, zyv120, zyv15, zyv36, zyv127, zyv120, zyv15, zyv120, zyv120, zyv15, zyv15, zyv120, zyv120, zyv120, zyv120, zyv120, zyv120, zyv120, zyv120, zyv120, zyv120, zyv15, zyv120, zyv120, zyv120, zyv120, zyv15, zyv15, zyv15, zyv15, zyv120, zyv120, zyv120])
noncomputable def zyr198 : List zC := [zyc248, zyc248, zyc248, zyc240, zyc10, zyc10, zyc10, zyc12, zyc241, zyc8, zyc8, zyc241, zyc8, zyc8, zyc269, zyc250]
noncomputable def zyh193 : zH := (126, [zyr178, zyr179, zyr180, zyr181, zyr182, zyr198, zyr184, zyr185], zym9)
noncomputable def zyc270 : zC := .inr (8, [zyv120, zyv15, zyv15, zyv15, zyv120, zyv120, zyv120, zyv120, zyv15, zyv120, zyv15, zyv15, zyv118, zyv17, zyv319, zyv329, zyv122, zyv120, zyv120, zyv120, zyv15, zyv36, zyv127, zyv120, zyv15, zyv120, zyv120, zyv15, zyv15, zyv120, zyv120, zyv120, zyv120, zyv120, zyv120, zyv120, zyv120, zyv120, zyv120, zyv15, zyv120, zyv120, zyv120, zyv120, zyv15, zyv15, zyv15, zyv15, zyv120, zyv120, zyv120])
noncomputable def zyr199 : List zC := [zyc248, zyc248, zyc248, zyc240, zyc10, zyc10, zyc10, zyc12, zyc241, zyc8, zyc8, zyc241, zyc8, zyc8, zyc270, zyc250]
noncomputable def zyh194 : zH := (126, [zyr178, zyr179, zyr180, zyr181, zyr182, zyr199, zyr184, zyr185], 0)
noncomputable def zyh195 : zH := (126, [zyr178, zyr179, zyr180, zyr181, zyr182, zyr199, zyr184, zyr185], zym9)
def zyv330 : zAV := .inl ((.ofNat 8, .ofNat 40), none)
noncomputable def zyc271 : zC := .inr (8, [zyv120, zyv15, zyv15, zyv15, zyv120, zyv120, zyv120, zyv120, zyv15, zyv120, zyv15, zyv15, zyv118, zyv17, zyv319, zyv330, zyv166, zyv120, zyv120, zyv120, zyv15, zyv36, zyv127, zyv120, zyv15, zyv120, zyv120, zyv15, zyv15, zyv120, zyv120, zyv120, zyv120, zyv120, zyv120, zyv120, zyv120, zyv120, zyv120, zyv15, zyv120, zyv120, zyv120, zyv120, zyv15, zyv15, zyv15, zyv15, zyv120, zyv120, zyv120])
noncomputable def zyr200 : List zC := [zyc248, zyc248, zyc248, zyc240, zyc10, zyc10, zyc10, zyc12, zyc241, zyc8, zyc8, zyc241, zyc8, zyc8, zyc271, zyc250]
noncomputable def zyh196 : zH := (126, [zyr178, zyr179, zyr180, zyr181, zyr182, zyr200, zyr184, zyr185], zym9)
noncomputable def zyc272 : zC := .inr (8, [zyv120, zyv15, zyv15, zyv15, zyv120, zyv120, zyv120, zyv120, zyv15, zyv120, zyv15, zyv15, zyv118, zyv17, zyv319, zyv330, zyv122, zyv120, zyv120, zyv120, zyv15, zyv36, zyv127, zyv120, zyv15, zyv120, zyv120, zyv15, zyv15, zyv120, zyv120, zyv120, zyv120, zyv120, zyv120, zyv120, zyv120, zyv120, zyv120, zyv15, zyv120, zyv120, zyv120, zyv120, zyv15, zyv15, zyv15, zyv15, zyv120, zyv120, zyv120])
noncomputable def zyr201 : List zC := [zyc248, zyc248, zyc248, zyc240, zyc10, zyc10, zyc10, zyc12, zyc241, zyc8, zyc8, zyc241, zyc8, zyc8, zyc272, zyc250]
noncomputable def zyh197 : zH := (126, [zyr178, zyr179, zyr180, zyr181, zyr182, zyr201, zyr184, zyr185], 0)
noncomputable def zyh198 : zH := (126, [zyr178, zyr179, zyr180, zyr181, zyr182, zyr201, zyr184, zyr185], zym9)
def zyv331 : zAV := .inl ((.ofNat 9, .ofNat 40), none)
noncomputable def zyc273 : zC := .inr (8, [zyv120, zyv15, zyv15, zyv15, zyv120, zyv120, zyv120, zyv120, zyv15, zyv120, zyv15, zyv15, zyv118, zyv17, zyv319, zyv331, zyv166, zyv120, zyv120, zyv120, zyv15, zyv36, zyv127, zyv120, zyv15, zyv120, zyv120, zyv15, zyv15, zyv120, zyv120, zyv120, zyv120, zyv120, zyv120, zyv120, zyv120, zyv120, zyv120, zyv15, zyv120, zyv120, zyv120, zyv120, zyv15, zyv15, zyv15, zyv15, zyv120, zyv120, zyv120])
noncomputable def zyr202 : List zC := [zyc248, zyc248, zyc248, zyc240, zyc10, zyc10, zyc10, zyc12, zyc241, zyc8, zyc8, zyc241, zyc8, zyc8, zyc273, zyc250]
noncomputable def zyh199 : zH := (126, [zyr178, zyr179, zyr180, zyr181, zyr182, zyr202, zyr184, zyr185], zym9)
noncomputable def zyc274 : zC := .inr (8, [zyv120, zyv15, zyv15, zyv15, zyv120, zyv120, zyv120, zyv120, zyv15, zyv120, zyv15, zyv15, zyv118, zyv17, zyv319, zyv331, zyv122, zyv120, zyv120, zyv120, zyv15, zyv36, zyv127, zyv120, zyv15, zyv120, zyv120, zyv15, zyv15, zyv120, zyv120, zyv120, zyv120, zyv120, zyv120, zyv120, zyv120, zyv120, zyv120, zyv15, zyv120, zyv120, zyv120, zyv120, zyv15, zyv15, zyv15, zyv15, zyv120, zyv120, zyv120])
noncomputable def zyr203 : List zC := [zyc248, zyc248, zyc248, zyc240, zyc10, zyc10, zyc10, zyc12, zyc241, zyc8, zyc8, zyc241, zyc8, zyc8, zyc274, zyc250]
noncomputable def zyh200 : zH := (126, [zyr178, zyr179, zyr180, zyr181, zyr182, zyr203, zyr184, zyr185], 0)
noncomputable def zyh201 : zH := (126, [zyr178, zyr179, zyr180, zyr181, zyr182, zyr203, zyr184, zyr185], zym9)
def zyv332 : zAV := .inl ((.ofNat 10, .ofNat 40), none)
noncomputable def zyc275 : zC := .inr (8, [zyv120, zyv15, zyv15, zyv15, zyv120, zyv120, zyv120, zyv120, zyv15, zyv120, zyv15, zyv15, zyv118, zyv17, zyv319, zyv332, zyv166, zyv120, zyv120, zyv120, zyv15, zyv36, zyv127, zyv120, zyv15, zyv120, zyv120, zyv15, zyv15, zyv120, zyv120, zyv120, zyv120, zyv120, zyv120, zyv120, zyv120, zyv120, zyv120, zyv15, zyv120, zyv120, zyv120, zyv120, zyv15, zyv15, zyv15, zyv15, zyv120, zyv120, zyv120])
noncomputable def zyr204 : List zC := [zyc248, zyc248, zyc248, zyc240, zyc10, zyc10, zyc10, zyc12, zyc241, zyc8, zyc8, zyc241, zyc8, zyc8, zyc275, zyc250]
noncomputable def zyh202 : zH := (126, [zyr178, zyr179, zyr180, zyr181, zyr182, zyr204, zyr184, zyr185], zym9)
def zyv333 : zAV := .inl ((.ofNat 11, .ofNat 40), none)
noncomputable def zyc276 : zC := .inr (8, [zyv120, zyv15, zyv15, zyv15, zyv120, zyv120, zyv120, zyv120, zyv15, zyv120, zyv15, zyv15, zyv118, zyv17, zyv319, zyv333, zyv122, zyv120, zyv120, zyv120, zyv15, zyv36, zyv127, zyv120, zyv15, zyv120, zyv120, zyv15, zyv15, zyv120, zyv120, zyv120, zyv120, zyv120, zyv120, zyv120, zyv120, zyv120, zyv120, zyv15, zyv120, zyv120, zyv120, zyv120, zyv15, zyv15, zyv15, zyv15, zyv120, zyv120, zyv120])
noncomputable def zyr205 : List zC := [zyc248, zyc248, zyc248, zyc240, zyc10, zyc10, zyc10, zyc12, zyc241, zyc8, zyc8, zyc241, zyc8, zyc8, zyc276, zyc250]
noncomputable def zyh203 : zH := (126, [zyr178, zyr179, zyr180, zyr181, zyr182, zyr205, zyr184, zyr185], 0)
noncomputable def zyh204 : zH := (126, [zyr178, zyr179, zyr180, zyr181, zyr182, zyr205, zyr184, zyr185], zym9)
def zyv334 : zAV := .inl ((.ofNat 12, .ofNat 40), none)
noncomputable def zyc277 : zC := .inr (8, [zyv120, zyv15, zyv15, zyv15, zyv120, zyv120, zyv120, zyv120, zyv15, zyv120, zyv15, zyv15, zyv118, zyv17, zyv319, zyv334, zyv166, zyv120, zyv120, zyv120, zyv15, zyv36, zyv127, zyv120, zyv15, zyv120, zyv120, zyv15, zyv15, zyv120, zyv120, zyv120, zyv120, zyv120, zyv120, zyv120, zyv120, zyv120, zyv120, zyv15, zyv120, zyv120, zyv120, zyv120, zyv15, zyv15, zyv15, zyv15, zyv120, zyv120, zyv120])
noncomputable def zyr206 : List zC := [zyc248, zyc248, zyc248, zyc240, zyc10, zyc10, zyc10, zyc12, zyc241, zyc8, zyc8, zyc241, zyc8, zyc8, zyc277, zyc250]
noncomputable def zyh205 : zH := (126, [zyr178, zyr179, zyr180, zyr181, zyr182, zyr206, zyr184, zyr185], zym9)
noncomputable def zyc278 : zC := .inr (8, [zyv120, zyv15, zyv15, zyv15, zyv120, zyv120, zyv120, zyv120, zyv15, zyv120, zyv15, zyv15, zyv118, zyv17, zyv319, zyv334, zyv122, zyv120, zyv120, zyv120, zyv15, zyv36, zyv127, zyv120, zyv15, zyv120, zyv120, zyv15, zyv15, zyv120, zyv120, zyv120, zyv120, zyv120, zyv120, zyv120, zyv120, zyv120, zyv120, zyv15, zyv120, zyv120, zyv120, zyv120, zyv15, zyv15, zyv15, zyv15, zyv120, zyv120, zyv120])
noncomputable def zyr207 : List zC := [zyc248, zyc248, zyc248, zyc240, zyc10, zyc10, zyc10, zyc12, zyc241, zyc8, zyc8, zyc241, zyc8, zyc8, zyc278, zyc250]
noncomputable def zyh206 : zH := (126, [zyr178, zyr179, zyr180, zyr181, zyr182, zyr207, zyr184, zyr185], 0)
noncomputable def zyh207 : zH := (126, [zyr178, zyr179, zyr180, zyr181, zyr182, zyr207, zyr184, zyr185], zym9)
def zyv335 : zAV := .inl ((.ofNat 13, .ofNat 40), none)
noncomputable def zyc279 : zC := .inr (8, [zyv120, zyv15, zyv15, zyv15, zyv120, zyv120, zyv120, zyv120, zyv15, zyv120, zyv15, zyv15, zyv118, zyv17, zyv319, zyv335, zyv166, zyv120, zyv120, zyv120, zyv15, zyv36, zyv127, zyv120, zyv15, zyv120, zyv120, zyv15, zyv15, zyv120, zyv120, zyv120, zyv120, zyv120, zyv120, zyv120, zyv120, zyv120, zyv120, zyv15, zyv120, zyv120, zyv120, zyv120, zyv15, zyv15, zyv15, zyv15, zyv120, zyv120, zyv120])
noncomputable def zyr208 : List zC := [zyc248, zyc248, zyc248, zyc240, zyc10, zyc10, zyc10, zyc12, zyc241, zyc8, zyc8, zyc241, zyc8, zyc8, zyc279, zyc250]
noncomputable def zyh208 : zH := (126, [zyr178, zyr179, zyr180, zyr181, zyr182, zyr208, zyr184, zyr185], zym9)
noncomputable def zyc280 : zC := .inr (8, [zyv120, zyv15, zyv15, zyv15, zyv120, zyv120, zyv120, zyv120, zyv15, zyv120, zyv15, zyv15, zyv118, zyv17, zyv319, zyv335, zyv122, zyv120, zyv120, zyv120, zyv15, zyv36, zyv127, zyv120, zyv15, zyv120, zyv120, zyv15, zyv15, zyv120, zyv120, zyv120, zyv120, zyv120, zyv120, zyv120, zyv120, zyv120, zyv120, zyv15, zyv120, zyv120, zyv120, zyv120, zyv15, zyv15, zyv15, zyv15, zyv120, zyv120, zyv120])
noncomputable def zyr209 : List zC := [zyc248, zyc248, zyc248, zyc240, zyc10, zyc10, zyc10, zyc12, zyc241, zyc8, zyc8, zyc241, zyc8, zyc8, zyc280, zyc250]
noncomputable def zyh209 : zH := (126, [zyr178, zyr179, zyr180, zyr181, zyr182, zyr209, zyr184, zyr185], 0)
noncomputable def zyh210 : zH := (126, [zyr178, zyr179, zyr180, zyr181, zyr182, zyr209, zyr184, zyr185], zym9)
def zyv336 : zAV := .inl ((.ofNat 14, .ofNat 40), none)
noncomputable def zyc281 : zC := .inr (8, [zyv120, zyv15, zyv15, zyv15, zyv120, zyv120, zyv120, zyv120, zyv15, zyv120, zyv15, zyv15, zyv118, zyv17, zyv319, zyv336, zyv166, zyv120, zyv120, zyv120, zyv15, zyv36, zyv127, zyv120, zyv15, zyv120, zyv120, zyv15, zyv15, zyv120, zyv120, zyv120, zyv120, zyv120, zyv120, zyv120, zyv120, zyv120, zyv120, zyv15, zyv120, zyv120, zyv120, zyv120, zyv15, zyv15, zyv15, zyv15, zyv120, zyv120, zyv120])
noncomputable def zyr210 : List zC := [zyc248, zyc248, zyc248, zyc240, zyc10, zyc10, zyc10, zyc12, zyc241, zyc8, zyc8, zyc241, zyc8, zyc8, zyc281, zyc250]
noncomputable def zyh211 : zH := (126, [zyr178, zyr179, zyr180, zyr181, zyr182, zyr210, zyr184, zyr185], zym9)
noncomputable def zyc282 : zC := .inr (8, [zyv120, zyv15, zyv15, zyv15, zyv120, zyv120, zyv120, zyv120, zyv15, zyv120, zyv15, zyv15, zyv118, zyv17, zyv319, zyv336, zyv122, zyv120, zyv120, zyv120, zyv15, zyv36, zyv127, zyv120, zyv15, zyv120, zyv120, zyv15, zyv15, zyv120, zyv120, zyv120, zyv120, zyv120, zyv120, zyv120, zyv120, zyv120, zyv120, zyv15, zyv120, zyv120, zyv120, zyv120, zyv15, zyv15, zyv15, zyv15, zyv120, zyv120, zyv120])
noncomputable def zyr211 : List zC := [zyc248, zyc248, zyc248, zyc240, zyc10, zyc10, zyc10, zyc12, zyc241, zyc8, zyc8, zyc241, zyc8, zyc8, zyc282, zyc250]
noncomputable def zyh212 : zH := (126, [zyr178, zyr179, zyr180, zyr181, zyr182, zyr211, zyr184, zyr185], 0)
noncomputable def zyh213 : zH := (126, [zyr178, zyr179, zyr180, zyr181, zyr182, zyr211, zyr184, zyr185], zym9)
def zyv337 : zAV := .inl ((.ofNat 15, .ofNat 40), none)
noncomputable def zyc283 : zC := .inr (8, [zyv120, zyv15, zyv15, zyv15, zyv120, zyv120, zyv120, zyv120, zyv15, zyv120, zyv15, zyv15, zyv118, zyv17, zyv319, zyv337, zyv166, zyv120, zyv120, zyv120, zyv15, zyv36, zyv127, zyv120, zyv15, zyv120, zyv120, zyv15, zyv15, zyv120, zyv120, zyv120, zyv120, zyv120, zyv120, zyv120, zyv120, zyv120, zyv120, zyv15, zyv120, zyv120, zyv120, zyv120, zyv15, zyv15, zyv15, zyv15, zyv120, zyv120, zyv120])
noncomputable def zyr212 : List zC := [zyc248, zyc248, zyc248, zyc240, zyc10, zyc10, zyc10, zyc12, zyc241, zyc8, zyc8, zyc241, zyc8, zyc8, zyc283, zyc250]
noncomputable def zyh214 : zH := (126, [zyr178, zyr179, zyr180, zyr181, zyr182, zyr212, zyr184, zyr185], zym9)
noncomputable def zyc284 : zC := .inr (8, [zyv120, zyv15, zyv15, zyv15, zyv120, zyv120, zyv120, zyv120, zyv15, zyv120, zyv15, zyv15, zyv118, zyv17, zyv319, zyv337, zyv122, zyv120, zyv120, zyv120, zyv15, zyv36, zyv127, zyv120, zyv15, zyv120, zyv120, zyv15, zyv15, zyv120, zyv120, zyv120, zyv120, zyv120, zyv120, zyv120, zyv120, zyv120, zyv120, zyv15, zyv120, zyv120, zyv120, zyv120, zyv15, zyv15, zyv15, zyv15, zyv120, zyv120, zyv120])
noncomputable def zyr213 : List zC := [zyc248, zyc248, zyc248, zyc240, zyc10, zyc10, zyc10, zyc12, zyc241, zyc8, zyc8, zyc241, zyc8, zyc8, zyc284, zyc250]
noncomputable def zyh215 : zH := (126, [zyr178, zyr179, zyr180, zyr181, zyr182, zyr213, zyr184, zyr185], 0)
noncomputable def zyh216 : zH := (126, [zyr178, zyr179, zyr180, zyr181, zyr182, zyr213, zyr184, zyr185], zym9)
def zyv338 : zAV := .inl ((.ofNat 16, .ofNat 40), none)
noncomputable def zyc285 : zC := .inr (8, [zyv120, zyv15, zyv15, zyv15, zyv120, zyv120, zyv120, zyv120, zyv15, zyv120, zyv15, zyv15, zyv118, zyv17, zyv319, zyv338, zyv166, zyv120, zyv120, zyv120, zyv15, zyv36, zyv127, zyv120, zyv15, zyv120, zyv120, zyv15, zyv15, zyv120, zyv120, zyv120, zyv120, zyv120, zyv120, zyv120, zyv120, zyv120, zyv120, zyv15, zyv120, zyv120, zyv120, zyv120, zyv15, zyv15, zyv15, zyv15, zyv120, zyv120, zyv120])
noncomputable def zyr214 : List zC := [zyc248, zyc248, zyc248, zyc240, zyc10, zyc10, zyc10, zyc12, zyc241, zyc8, zyc8, zyc241, zyc8, zyc8, zyc285, zyc250]
noncomputable def zyh217 : zH := (126, [zyr178, zyr179, zyr180, zyr181, zyr182, zyr214, zyr184, zyr185], zym9)
noncomputable def zyc286 : zC := .inr (8, [zyv120, zyv15, zyv15, zyv15, zyv120, zyv120, zyv120, zyv120, zyv15, zyv120, zyv15, zyv15, zyv118, zyv17, zyv319, zyv338, zyv122, zyv120, zyv120, zyv120, zyv15, zyv36, zyv127, zyv120, zyv15, zyv120, zyv120, zyv15, zyv15, zyv120, zyv120, zyv120, zyv120, zyv120, zyv120, zyv120, zyv120, zyv120, zyv120, zyv15, zyv120, zyv120, zyv120, zyv120, zyv15, zyv15, zyv15, zyv15, zyv120, zyv120, zyv120])
noncomputable def zyr215 : List zC := [zyc248, zyc248, zyc248, zyc240, zyc10, zyc10, zyc10, zyc12, zyc241, zyc8, zyc8, zyc241, zyc8, zyc8, zyc286, zyc250]
noncomputable def zyh218 : zH := (126, [zyr178, zyr179, zyr180, zyr181, zyr182, zyr215, zyr184, zyr185], 0)
noncomputable def zyh219 : zH := (126, [zyr178, zyr179, zyr180, zyr181, zyr182, zyr215, zyr184, zyr185], zym9)
def zyv339 : zAV := .inl ((.ofNat 17, .ofNat 40), none)
noncomputable def zyc287 : zC := .inr (8, [zyv120, zyv15, zyv15, zyv15, zyv120, zyv120, zyv120, zyv120, zyv15, zyv120, zyv15, zyv15, zyv118, zyv17, zyv319, zyv339, zyv166, zyv120, zyv120, zyv120, zyv15, zyv36, zyv127, zyv120, zyv15, zyv120, zyv120, zyv15, zyv15, zyv120, zyv120, zyv120, zyv120, zyv120, zyv120, zyv120, zyv120, zyv120, zyv120, zyv15, zyv120, zyv120, zyv120, zyv120, zyv15, zyv15, zyv15, zyv15, zyv120, zyv120, zyv120])
noncomputable def zyr216 : List zC := [zyc248, zyc248, zyc248, zyc240, zyc10, zyc10, zyc10, zyc12, zyc241, zyc8, zyc8, zyc241, zyc8, zyc8, zyc287, zyc250]
noncomputable def zyh220 : zH := (126, [zyr178, zyr179, zyr180, zyr181, zyr182, zyr216, zyr184, zyr185], zym9)
noncomputable def zyc288 : zC := .inr (8, [zyv120, zyv15, zyv15, zyv15, zyv120, zyv120, zyv120, zyv120, zyv15, zyv120, zyv15, zyv15, zyv118, zyv17, zyv319, zyv339, zyv122, zyv120, zyv120, zyv120, zyv15, zyv36, zyv127, zyv120, zyv15, zyv120, zyv120, zyv15, zyv15, zyv120, zyv120, zyv120, zyv120, zyv120, zyv120, zyv120, zyv120, zyv120, zyv120, zyv15, zyv120, zyv120, zyv120, zyv120, zyv15, zyv15, zyv15, zyv15, zyv120, zyv120, zyv120])
noncomputable def zyr217 : List zC := [zyc248, zyc248, zyc248, zyc240, zyc10, zyc10, zyc10, zyc12, zyc241, zyc8, zyc8, zyc241, zyc8, zyc8, zyc288, zyc250]
noncomputable def zyh221 : zH := (126, [zyr178, zyr179, zyr180, zyr181, zyr182, zyr217, zyr184, zyr185], 0)
noncomputable def zyh222 : zH := (126, [zyr178, zyr179, zyr180, zyr181, zyr182, zyr217, zyr184, zyr185], zym9)
def zyv340 : zAV := .inl ((.ofNat 18, .ofNat 40), none)
noncomputable def zyc289 : zC := .inr (8, [zyv120, zyv15, zyv15, zyv15, zyv120, zyv120, zyv120, zyv120, zyv15, zyv120, zyv15, zyv15, zyv118, zyv17, zyv319, zyv340, zyv166, zyv120, zyv120, zyv120, zyv15, zyv36, zyv127, zyv120, zyv15, zyv120, zyv120, zyv15, zyv15, zyv120, zyv120, zyv120, zyv120, zyv120, zyv120, zyv120, zyv120, zyv120, zyv120, zyv15, zyv120, zyv120, zyv120, zyv120, zyv15, zyv15, zyv15, zyv15, zyv120, zyv120, zyv120])
noncomputable def zyr218 : List zC := [zyc248, zyc248, zyc248, zyc240, zyc10, zyc10, zyc10, zyc12, zyc241, zyc8, zyc8, zyc241, zyc8, zyc8, zyc289, zyc250]
noncomputable def zyh223 : zH := (126, [zyr178, zyr179, zyr180, zyr181, zyr182, zyr218, zyr184, zyr185], zym9)
noncomputable def zyc290 : zC := .inr (8, [zyv120, zyv15, zyv15, zyv15, zyv120, zyv120, zyv120, zyv120, zyv15, zyv120, zyv15, zyv15, zyv118, zyv17, zyv319, zyv340, zyv122, zyv120, zyv120, zyv120, zyv15, zyv36, zyv127, zyv120, zyv15, zyv120, zyv120, zyv15, zyv15, zyv120, zyv120, zyv120, zyv120, zyv120, zyv120, zyv120, zyv120, zyv120, zyv120, zyv15, zyv120, zyv120, zyv120, zyv120, zyv15, zyv15, zyv15, zyv15, zyv120, zyv120, zyv120])
noncomputable def zyr219 : List zC := [zyc248, zyc248, zyc248, zyc240, zyc10, zyc10, zyc10, zyc12, zyc241, zyc8, zyc8, zyc241, zyc8, zyc8, zyc290, zyc250]
noncomputable def zyh224 : zH := (126, [zyr178, zyr179, zyr180, zyr181, zyr182, zyr219, zyr184, zyr185], 0)
noncomputable def zyh225 : zH := (126, [zyr178, zyr179, zyr180, zyr181, zyr182, zyr219, zyr184, zyr185], zym9)
def zyv341 : zAV := .inl ((.ofNat 19, .ofNat 40), none)
noncomputable def zyc291 : zC := .inr (8, [zyv120, zyv15, zyv15, zyv15, zyv120, zyv120, zyv120, zyv120, zyv15, zyv120, zyv15, zyv15, zyv118, zyv17, zyv319, zyv341, zyv166, zyv120, zyv120, zyv120, zyv15, zyv36, zyv127, zyv120, zyv15, zyv120, zyv120, zyv15, zyv15, zyv120, zyv120, zyv120, zyv120, zyv120, zyv120, zyv120, zyv120, zyv120, zyv120, zyv15, zyv120, zyv120, zyv120, zyv120, zyv15, zyv15, zyv15, zyv15, zyv120, zyv120, zyv120])
noncomputable def zyr220 : List zC := [zyc248, zyc248, zyc248, zyc240, zyc10, zyc10, zyc10, zyc12, zyc241, zyc8, zyc8, zyc241, zyc8, zyc8, zyc291, zyc250]
noncomputable def zyh226 : zH := (126, [zyr178, zyr179, zyr180, zyr181, zyr182, zyr220, zyr184, zyr185], zym9)
noncomputable def zyc292 : zC := .inr (8, [zyv120, zyv15, zyv15, zyv15, zyv120, zyv120, zyv120, zyv120, zyv15, zyv120, zyv15, zyv15, zyv118, zyv17, zyv319, zyv341, zyv122, zyv120, zyv120, zyv120, zyv15, zyv36, zyv127, zyv120, zyv15, zyv120, zyv120, zyv15, zyv15, zyv120, zyv120, zyv120, zyv120, zyv120, zyv120, zyv120, zyv120, zyv120, zyv120, zyv15, zyv120, zyv120, zyv120, zyv120, zyv15, zyv15, zyv15, zyv15, zyv120, zyv120, zyv120])
noncomputable def zyr221 : List zC := [zyc248, zyc248, zyc248, zyc240, zyc10, zyc10, zyc10, zyc12, zyc241, zyc8, zyc8, zyc241, zyc8, zyc8, zyc292, zyc250]
noncomputable def zyh227 : zH := (126, [zyr178, zyr179, zyr180, zyr181, zyr182, zyr221, zyr184, zyr185], 0)
noncomputable def zyh228 : zH := (126, [zyr178, zyr179, zyr180, zyr181, zyr182, zyr221, zyr184, zyr185], zym9)
def zyv342 : zAV := .inl ((.ofNat 20, .ofNat 40), none)
noncomputable def zyc293 : zC := .inr (8, [zyv120, zyv15, zyv15, zyv15, zyv120, zyv120, zyv120, zyv120, zyv15, zyv120, zyv15, zyv15, zyv118, zyv17, zyv319, zyv342, zyv166, zyv120, zyv120, zyv120, zyv15, zyv36, zyv127, zyv120, zyv15, zyv120, zyv120, zyv15, zyv15, zyv120, zyv120, zyv120, zyv120, zyv120, zyv120, zyv120, zyv120, zyv120, zyv120, zyv15, zyv120, zyv120, zyv120, zyv120, zyv15, zyv15, zyv15, zyv15, zyv120, zyv120, zyv120])
noncomputable def zyr222 : List zC := [zyc248, zyc248, zyc248, zyc240, zyc10, zyc10, zyc10, zyc12, zyc241, zyc8, zyc8, zyc241, zyc8, zyc8, zyc293, zyc250]
noncomputable def zyh229 : zH := (126, [zyr178, zyr179, zyr180, zyr181, zyr182, zyr222, zyr184, zyr185], zym9)
noncomputable def zyc294 : zC := .inr (8, [zyv120, zyv15, zyv15, zyv15, zyv120, zyv120, zyv120, zyv120, zyv15, zyv120, zyv15, zyv15, zyv118, zyv17, zyv319, zyv342, zyv122, zyv120, zyv120, zyv120, zyv15, zyv36, zyv127, zyv120, zyv15, zyv120, zyv120, zyv15, zyv15, zyv120, zyv120, zyv120, zyv120, zyv120, zyv120, zyv120, zyv120, zyv120, zyv120, zyv15, zyv120, zyv120, zyv120, zyv120, zyv15, zyv15, zyv15, zyv15, zyv120, zyv120, zyv120])
noncomputable def zyr223 : List zC := [zyc248, zyc248, zyc248, zyc240, zyc10, zyc10, zyc10, zyc12, zyc241, zyc8, zyc8, zyc241, zyc8, zyc8, zyc294, zyc250]
noncomputable def zyh230 : zH := (126, [zyr178, zyr179, zyr180, zyr181, zyr182, zyr223, zyr184, zyr185], 0)
noncomputable def zyh231 : zH := (126, [zyr178, zyr179, zyr180, zyr181, zyr182, zyr223, zyr184, zyr185], zym9)
def zyv343 : zAV := .inl ((.ofNat 21, .ofNat 40), none)
noncomputable def zyc295 : zC := .inr (8, [zyv120, zyv15, zyv15, zyv15, zyv120, zyv120, zyv120, zyv120, zyv15, zyv120, zyv15, zyv15, zyv118, zyv17, zyv319, zyv343, zyv166, zyv120, zyv120, zyv120, zyv15, zyv36, zyv127, zyv120, zyv15, zyv120, zyv120, zyv15, zyv15, zyv120, zyv120, zyv120, zyv120, zyv120, zyv120, zyv120, zyv120, zyv120, zyv120, zyv15, zyv120, zyv120, zyv120, zyv120, zyv15, zyv15, zyv15, zyv15, zyv120, zyv120, zyv120])
noncomputable def zyr224 : List zC := [zyc248, zyc248, zyc248, zyc240, zyc10, zyc10, zyc10, zyc12, zyc241, zyc8, zyc8, zyc241, zyc8, zyc8, zyc295, zyc250]
noncomputable def zyh232 : zH := (126, [zyr178, zyr179, zyr180, zyr181, zyr182, zyr224, zyr184, zyr185], zym9)
noncomputable def zyc296 : zC := .inr (8, [zyv120, zyv15, zyv15, zyv15, zyv120, zyv120, zyv120, zyv120, zyv15, zyv120, zyv15, zyv15, zyv118, zyv17, zyv319, zyv343, zyv122, zyv120, zyv120, zyv120, zyv15, zyv36, zyv127, zyv120, zyv15, zyv120, zyv120, zyv15, zyv15, zyv120, zyv120, zyv120, zyv120, zyv120, zyv120, zyv120, zyv120, zyv120, zyv120, zyv15, zyv120, zyv120, zyv120, zyv120, zyv15, zyv15, zyv15, zyv15, zyv120, zyv120, zyv120])
noncomputable def zyr225 : List zC := [zyc248, zyc248, zyc248, zyc240, zyc10, zyc10, zyc10, zyc12, zyc241, zyc8, zyc8, zyc241, zyc8, zyc8, zyc296, zyc250]
noncomputable def zyh233 : zH := (126, [zyr178, zyr179, zyr180, zyr181, zyr182, zyr225, zyr184, zyr185], 0)
noncomputable def zyh234 : zH := (126, [zyr178, zyr179, zyr180, zyr181, zyr182, zyr225, zyr184, zyr185], zym9)
def zyv344 : zAV := .inl ((.ofNat 22, .ofNat 40), none)
noncomputable def zyc297 : zC := .inr (8, [zyv120, zyv15, zyv15, zyv15, zyv120, zyv120, zyv120, zyv120, zyv15, zyv120, zyv15, zyv15, zyv118, zyv17, zyv319, zyv344, zyv166, zyv120, zyv120, zyv120, zyv15, zyv36, zyv127, zyv120, zyv15, zyv120, zyv120, zyv15, zyv15, zyv120, zyv120, zyv120, zyv120, zyv120, zyv120, zyv120, zyv120, zyv120, zyv120, zyv15, zyv120, zyv120, zyv120, zyv120, zyv15, zyv15, zyv15, zyv15, zyv120, zyv120, zyv120])
noncomputable def zyr226 : List zC := [zyc248, zyc248, zyc248, zyc240, zyc10, zyc10, zyc10, zyc12, zyc241, zyc8, zyc8, zyc241, zyc8, zyc8, zyc297, zyc250]
noncomputable def zyh235 : zH := (126, [zyr178, zyr179, zyr180, zyr181, zyr182, zyr226, zyr184, zyr185], zym9)
noncomputable def zyc298 : zC := .inr (8, [zyv120, zyv15, zyv15, zyv15, zyv120, zyv120, zyv120, zyv120, zyv15, zyv120, zyv15, zyv15, zyv118, zyv17, zyv319, zyv344, zyv122, zyv120, zyv120, zyv120, zyv15, zyv36, zyv127, zyv120, zyv15, zyv120, zyv120, zyv15, zyv15, zyv120, zyv120, zyv120, zyv120, zyv120, zyv120, zyv120, zyv120, zyv120, zyv120, zyv15, zyv120, zyv120, zyv120, zyv120, zyv15, zyv15, zyv15, zyv15, zyv120, zyv120, zyv120])
noncomputable def zyr227 : List zC := [zyc248, zyc248, zyc248, zyc240, zyc10, zyc10, zyc10, zyc12, zyc241, zyc8, zyc8, zyc241, zyc8, zyc8, zyc298, zyc250]
noncomputable def zyh236 : zH := (126, [zyr178, zyr179, zyr180, zyr181, zyr182, zyr227, zyr184, zyr185], 0)
noncomputable def zyh237 : zH := (126, [zyr178, zyr179, zyr180, zyr181, zyr182, zyr227, zyr184, zyr185], zym9)
def zyv345 : zAV := .inl ((.ofNat 23, .ofNat 40), none)
noncomputable def zyc299 : zC := .inr (8, [zyv120, zyv15, zyv15, zyv15, zyv120, zyv120, zyv120, zyv120, zyv15, zyv120, zyv15, zyv15, zyv118, zyv17, zyv319, zyv345, zyv166, zyv120, zyv120, zyv120, zyv15, zyv36, zyv127, zyv120, zyv15, zyv120, zyv120, zyv15, zyv15, zyv120, zyv120, zyv120, zyv120, zyv120, zyv120, zyv120, zyv120, zyv120, zyv120, zyv15, zyv120, zyv120, zyv120, zyv120, zyv15, zyv15, zyv15, zyv15, zyv120, zyv120, zyv120])
noncomputable def zyr228 : List zC := [zyc248, zyc248, zyc248, zyc240, zyc10, zyc10, zyc10, zyc12, zyc241, zyc8, zyc8, zyc241, zyc8, zyc8, zyc299, zyc250]
noncomputable def zyh238 : zH := (126, [zyr178, zyr179, zyr180, zyr181, zyr182, zyr228, zyr184, zyr185], zym9)
noncomputable def zyc300 : zC := .inr (8, [zyv120, zyv15, zyv15, zyv15, zyv120, zyv120, zyv120, zyv120, zyv15, zyv120, zyv15, zyv15, zyv118, zyv17, zyv319, zyv345, zyv122, zyv120, zyv120, zyv120, zyv15, zyv36, zyv127, zyv120, zyv15, zyv120, zyv120, zyv15, zyv15, zyv120, zyv120, zyv120, zyv120, zyv120, zyv120, zyv120, zyv120, zyv120, zyv120, zyv15, zyv120, zyv120, zyv120, zyv120, zyv15, zyv15, zyv15, zyv15, zyv120, zyv120, zyv120])
noncomputable def zyr229 : List zC := [zyc248, zyc248, zyc248, zyc240, zyc10, zyc10, zyc10, zyc12, zyc241, zyc8, zyc8, zyc241, zyc8, zyc8, zyc300, zyc250]
noncomputable def zyh239 : zH := (126, [zyr178, zyr179, zyr180, zyr181, zyr182, zyr229, zyr184, zyr185], 0)
noncomputable def zyh240 : zH := (126, [zyr178, zyr179, zyr180, zyr181, zyr182, zyr229, zyr184, zyr185], zym9)
def zyv346 : zAV := .inl ((.ofNat 24, .ofNat 40), none)
noncomputable def zyc301 : zC := .inr (8, [zyv120, zyv15, zyv15, zyv15, zyv120, zyv120, zyv120, zyv120, zyv15, zyv120, zyv15, zyv15, zyv118, zyv17, zyv319, zyv346, zyv166, zyv120, zyv120, zyv120, zyv15, zyv36, zyv127, zyv120, zyv15, zyv120, zyv120, zyv15, zyv15, zyv120, zyv120, zyv120, zyv120, zyv120, zyv120, zyv120, zyv120, zyv120, zyv120, zyv15, zyv120, zyv120, zyv120, zyv120, zyv15, zyv15, zyv15, zyv15, zyv120, zyv120, zyv120])
noncomputable def zyr230 : List zC := [zyc248, zyc248, zyc248, zyc240, zyc10, zyc10, zyc10, zyc12, zyc241, zyc8, zyc8, zyc241, zyc8, zyc8, zyc301, zyc250]
noncomputable def zyh241 : zH := (126, [zyr178, zyr179, zyr180, zyr181, zyr182, zyr230, zyr184, zyr185], zym9)
noncomputable def zyc302 : zC := .inr (8, [zyv120, zyv15, zyv15, zyv15, zyv120, zyv120, zyv120, zyv120, zyv15, zyv120, zyv15, zyv15, zyv118, zyv17, zyv319, zyv346, zyv122, zyv120, zyv120, zyv120, zyv15, zyv36, zyv127, zyv120, zyv15, zyv120, zyv120, zyv15, zyv15, zyv120, zyv120, zyv120, zyv120, zyv120, zyv120, zyv120, zyv120, zyv120, zyv120, zyv15, zyv120, zyv120, zyv120, zyv120, zyv15, zyv15, zyv15, zyv15, zyv120, zyv120, zyv120])
noncomputable def zyr231 : List zC := [zyc248, zyc248, zyc248, zyc240, zyc10, zyc10, zyc10, zyc12, zyc241, zyc8, zyc8, zyc241, zyc8, zyc8, zyc302, zyc250]
noncomputable def zyh242 : zH := (126, [zyr178, zyr179, zyr180, zyr181, zyr182, zyr231, zyr184, zyr185], 0)
noncomputable def zyh243 : zH := (126, [zyr178, zyr179, zyr180, zyr181, zyr182, zyr231, zyr184, zyr185], zym9)
def zyv347 : zAV := .inl ((.ofNat 25, .ofNat 40), none)
noncomputable def zyc303 : zC := .inr (8, [zyv120, zyv15, zyv15, zyv15, zyv120, zyv120, zyv120, zyv120, zyv15, zyv120, zyv15, zyv15, zyv118, zyv17, zyv319, zyv347, zyv166, zyv120, zyv120, zyv120, zyv15, zyv36, zyv127, zyv120, zyv15, zyv120, zyv120, zyv15, zyv15, zyv120, zyv120, zyv120, zyv120, zyv120, zyv120, zyv120, zyv120, zyv120, zyv120, zyv15, zyv120, zyv120, zyv120, zyv120, zyv15, zyv15, zyv15, zyv15, zyv120, zyv120, zyv120])
noncomputable def zyr232 : List zC := [zyc248, zyc248, zyc248, zyc240, zyc10, zyc10, zyc10, zyc12, zyc241, zyc8, zyc8, zyc241, zyc8, zyc8, zyc303, zyc250]
noncomputable def zyh244 : zH := (126, [zyr178, zyr179, zyr180, zyr181, zyr182, zyr232, zyr184, zyr185], zym9)
noncomputable def zyc304 : zC := .inr (8, [zyv120, zyv15, zyv15, zyv15, zyv120, zyv120, zyv120, zyv120, zyv15, zyv120, zyv15, zyv15, zyv118, zyv17, zyv319, zyv347, zyv122, zyv120, zyv120, zyv120, zyv15, zyv36, zyv127, zyv120, zyv15, zyv120, zyv120, zyv15, zyv15, zyv120, zyv120, zyv120, zyv120, zyv120, zyv120, zyv120, zyv120, zyv120, zyv120, zyv15, zyv120, zyv120, zyv120, zyv120, zyv15, zyv15, zyv15, zyv15, zyv120, zyv120, zyv120])
noncomputable def zyr233 : List zC := [zyc248, zyc248, zyc248, zyc240, zyc10, zyc10, zyc10, zyc12, zyc241, zyc8, zyc8, zyc241, zyc8, zyc8, zyc304, zyc250]
noncomputable def zyh245 : zH := (126, [zyr178, zyr179, zyr180, zyr181, zyr182, zyr233, zyr184, zyr185], 0)
noncomputable def zyh246 : zH := (126, [zyr178, zyr179, zyr180, zyr181, zyr182, zyr233, zyr184, zyr185], zym9)
def zyv348 : zAV := .inl ((.ofNat 26, .ofNat 40), none)
noncomputable def zyc305 : zC := .inr (8, [zyv120, zyv15, zyv15, zyv15, zyv120, zyv120, zyv120, zyv120, zyv15, zyv120, zyv15, zyv15, zyv118, zyv17, zyv319, zyv348, zyv166, zyv120, zyv120, zyv120, zyv15, zyv36, zyv127, zyv120, zyv15, zyv120, zyv120, zyv15, zyv15, zyv120, zyv120, zyv120, zyv120, zyv120, zyv120, zyv120, zyv120, zyv120, zyv120, zyv15, zyv120, zyv120, zyv120, zyv120, zyv15, zyv15, zyv15, zyv15, zyv120, zyv120, zyv120])
noncomputable def zyr234 : List zC := [zyc248, zyc248, zyc248, zyc240, zyc10, zyc10, zyc10, zyc12, zyc241, zyc8, zyc8, zyc241, zyc8, zyc8, zyc305, zyc250]
noncomputable def zyh247 : zH := (126, [zyr178, zyr179, zyr180, zyr181, zyr182, zyr234, zyr184, zyr185], zym9)
noncomputable def zyc306 : zC := .inr (8, [zyv120, zyv15, zyv15, zyv15, zyv120, zyv120, zyv120, zyv120, zyv15, zyv120, zyv15, zyv15, zyv118, zyv17, zyv319, zyv348, zyv122, zyv120, zyv120, zyv120, zyv15, zyv36, zyv127, zyv120, zyv15, zyv120, zyv120, zyv15, zyv15, zyv120, zyv120, zyv120, zyv120, zyv120, zyv120, zyv120, zyv120, zyv120, zyv120, zyv15, zyv120, zyv120, zyv120, zyv120, zyv15, zyv15, zyv15, zyv15, zyv120, zyv120, zyv120])
noncomputable def zyr235 : List zC := [zyc248, zyc248, zyc248, zyc240, zyc10, zyc10, zyc10, zyc12, zyc241, zyc8, zyc8, zyc241, zyc8, zyc8, zyc306, zyc250]
noncomputable def zyh248 : zH := (126, [zyr178, zyr179, zyr180, zyr181, zyr182, zyr235, zyr184, zyr185], 0)
noncomputable def zyh249 : zH := (126, [zyr178, zyr179, zyr180, zyr181, zyr182, zyr235, zyr184, zyr185], zym9)
def zyv349 : zAV := .inl ((.ofNat 27, .ofNat 40), none)
noncomputable def zyc307 : zC := .inr (8, [zyv120, zyv15, zyv15, zyv15, zyv120, zyv120, zyv120, zyv120, zyv15, zyv120, zyv15, zyv15, zyv118, zyv17, zyv319, zyv349, zyv166, zyv120, zyv120, zyv120, zyv15, zyv36, zyv127, zyv120, zyv15, zyv120, zyv120, zyv15, zyv15, zyv120, zyv120, zyv120, zyv120, zyv120, zyv120, zyv120, zyv120, zyv120, zyv120, zyv15, zyv120, zyv120, zyv120, zyv120, zyv15, zyv15, zyv15, zyv15, zyv120, zyv120, zyv120])
noncomputable def zyr236 : List zC := [zyc248, zyc248, zyc248, zyc240, zyc10, zyc10, zyc10, zyc12, zyc241, zyc8, zyc8, zyc241, zyc8, zyc8, zyc307, zyc250]
noncomputable def zyh250 : zH := (126, [zyr178, zyr179, zyr180, zyr181, zyr182, zyr236, zyr184, zyr185], zym9)
noncomputable def zyc308 : zC := .inr (8, [zyv120, zyv15, zyv15, zyv15, zyv120, zyv120, zyv120, zyv120, zyv15, zyv120, zyv15, zyv15, zyv118, zyv17, zyv319, zyv349, zyv122, zyv120, zyv120, zyv120, zyv15, zyv36, zyv127, zyv120, zyv15, zyv120, zyv120, zyv15, zyv15, zyv120, zyv120, zyv120, zyv120, zyv120, zyv120, zyv120, zyv120, zyv120, zyv120, zyv15, zyv120, zyv120, zyv120, zyv120, zyv15, zyv15, zyv15, zyv15, zyv120, zyv120, zyv120])
noncomputable def zyr237 : List zC := [zyc248, zyc248, zyc248, zyc240, zyc10, zyc10, zyc10, zyc12, zyc241, zyc8, zyc8, zyc241, zyc8, zyc8, zyc308, zyc250]
noncomputable def zyh251 : zH := (126, [zyr178, zyr179, zyr180, zyr181, zyr182, zyr237, zyr184, zyr185], 0)
noncomputable def zyh252 : zH := (126, [zyr178, zyr179, zyr180, zyr181, zyr182, zyr237, zyr184, zyr185], zym9)
def zyv350 : zAV := .inl ((.ofNat 28, .ofNat 40), none)
noncomputable def zyc309 : zC := .inr (8, [zyv120, zyv15, zyv15, zyv15, zyv120, zyv120, zyv120, zyv120, zyv15, zyv120, zyv15, zyv15, zyv118, zyv17, zyv319, zyv350, zyv166, zyv120, zyv120, zyv120, zyv15, zyv36, zyv127, zyv120, zyv15, zyv120, zyv120, zyv15, zyv15, zyv120, zyv120, zyv120, zyv120, zyv120, zyv120, zyv120, zyv120, zyv120, zyv120, zyv15, zyv120, zyv120, zyv120, zyv120, zyv15, zyv15, zyv15, zyv15, zyv120, zyv120, zyv120])
noncomputable def zyr238 : List zC := [zyc248, zyc248, zyc248, zyc240, zyc10, zyc10, zyc10, zyc12, zyc241, zyc8, zyc8, zyc241, zyc8, zyc8, zyc309, zyc250]
noncomputable def zyh253 : zH := (126, [zyr178, zyr179, zyr180, zyr181, zyr182, zyr238, zyr184, zyr185], zym9)
noncomputable def zyc310 : zC := .inr (8, [zyv120, zyv15, zyv15, zyv15, zyv120, zyv120, zyv120, zyv120, zyv15, zyv120, zyv15, zyv15, zyv118, zyv17, zyv319, zyv350, zyv122, zyv120, zyv120, zyv120, zyv15, zyv36, zyv127, zyv120, zyv15, zyv120, zyv120, zyv15, zyv15, zyv120, zyv120, zyv120, zyv120, zyv120, zyv120, zyv120, zyv120, zyv120, zyv120, zyv15, zyv120, zyv120, zyv120, zyv120, zyv15, zyv15, zyv15, zyv15, zyv120, zyv120, zyv120])
noncomputable def zyr239 : List zC := [zyc248, zyc248, zyc248, zyc240, zyc10, zyc10, zyc10, zyc12, zyc241, zyc8, zyc8, zyc241, zyc8, zyc8, zyc310, zyc250]
noncomputable def zyh254 : zH := (126, [zyr178, zyr179, zyr180, zyr181, zyr182, zyr239, zyr184, zyr185], 0)
noncomputable def zyh255 : zH := (126, [zyr178, zyr179, zyr180, zyr181, zyr182, zyr239, zyr184, zyr185], zym9)
def zyv351 : zAV := .inl ((.ofNat 29, .ofNat 40), none)
noncomputable def zyc311 : zC := .inr (8, [zyv120, zyv15, zyv15, zyv15, zyv120, zyv120, zyv120, zyv120, zyv15, zyv120, zyv15, zyv15, zyv118, zyv17, zyv319, zyv351, zyv166, zyv120, zyv120, zyv120, zyv15, zyv36, zyv127, zyv120, zyv15, zyv120, zyv120, zyv15, zyv15, zyv120, zyv120, zyv120, zyv120, zyv120, zyv120, zyv120, zyv120, zyv120, zyv120, zyv15, zyv120, zyv120, zyv120, zyv120, zyv15, zyv15, zyv15, zyv15, zyv120, zyv120, zyv120])
noncomputable def zyr240 : List zC := [zyc248, zyc248, zyc248, zyc240, zyc10, zyc10, zyc10, zyc12, zyc241, zyc8, zyc8, zyc241, zyc8, zyc8, zyc311, zyc250]
noncomputable def zyh256 : zH := (126, [zyr178, zyr179, zyr180, zyr181, zyr182, zyr240, zyr184, zyr185], zym9)
noncomputable def zyc312 : zC := .inr (8, [zyv120, zyv15, zyv15, zyv15, zyv120, zyv120, zyv120, zyv120, zyv15, zyv120, zyv15, zyv15, zyv118, zyv17, zyv319, zyv351, zyv122, zyv120, zyv120, zyv120, zyv15, zyv36, zyv127, zyv120, zyv15, zyv120, zyv120, zyv15, zyv15, zyv120, zyv120, zyv120, zyv120, zyv120, zyv120, zyv120, zyv120, zyv120, zyv120, zyv15, zyv120, zyv120, zyv120, zyv120, zyv15, zyv15, zyv15, zyv15, zyv120, zyv120, zyv120])
noncomputable def zyr241 : List zC := [zyc248, zyc248, zyc248, zyc240, zyc10, zyc10, zyc10, zyc12, zyc241, zyc8, zyc8, zyc241, zyc8, zyc8, zyc312, zyc250]
noncomputable def zyh257 : zH := (126, [zyr178, zyr179, zyr180, zyr181, zyr182, zyr241, zyr184, zyr185], 0)
noncomputable def zyh258 : zH := (126, [zyr178, zyr179, zyr180, zyr181, zyr182, zyr241, zyr184, zyr185], zym9)
def zyv352 : zAV := .inl ((.ofNat 30, .ofNat 40), none)
noncomputable def zyc313 : zC := .inr (8, [zyv120, zyv15, zyv15, zyv15, zyv120, zyv120, zyv120, zyv120, zyv15, zyv120, zyv15, zyv15, zyv118, zyv17, zyv319, zyv352, zyv166, zyv120, zyv120, zyv120, zyv15, zyv36, zyv127, zyv120, zyv15, zyv120, zyv120, zyv15, zyv15, zyv120, zyv120, zyv120, zyv120, zyv120, zyv120, zyv120, zyv120, zyv120, zyv120, zyv15, zyv120, zyv120, zyv120, zyv120, zyv15, zyv15, zyv15, zyv15, zyv120, zyv120, zyv120])
noncomputable def zyr242 : List zC := [zyc248, zyc248, zyc248, zyc240, zyc10, zyc10, zyc10, zyc12, zyc241, zyc8, zyc8, zyc241, zyc8, zyc8, zyc313, zyc250]
noncomputable def zyh259 : zH := (126, [zyr178, zyr179, zyr180, zyr181, zyr182, zyr242, zyr184, zyr185], zym9)
noncomputable def zyc314 : zC := .inr (8, [zyv120, zyv15, zyv15, zyv15, zyv120, zyv120, zyv120, zyv120, zyv15, zyv120, zyv15, zyv15, zyv118, zyv17, zyv319, zyv352, zyv122, zyv120, zyv120, zyv120, zyv15, zyv36, zyv127, zyv120, zyv15, zyv120, zyv120, zyv15, zyv15, zyv120, zyv120, zyv120, zyv120, zyv120, zyv120, zyv120, zyv120, zyv120, zyv120, zyv15, zyv120, zyv120, zyv120, zyv120, zyv15, zyv15, zyv15, zyv15, zyv120, zyv120, zyv120])
noncomputable def zyr243 : List zC := [zyc248, zyc248, zyc248, zyc240, zyc10, zyc10, zyc10, zyc12, zyc241, zyc8, zyc8, zyc241, zyc8, zyc8, zyc314, zyc250]
noncomputable def zyh260 : zH := (126, [zyr178, zyr179, zyr180, zyr181, zyr182, zyr243, zyr184, zyr185], 0)
noncomputable def zyh261 : zH := (126, [zyr178, zyr179, zyr180, zyr181, zyr182, zyr243, zyr184, zyr185], zym9)
def zyv353 : zAV := .inl ((.ofNat 31, .ofNat 40), none)
noncomputable def zyc315 : zC := .inr (8, [zyv120, zyv15, zyv15, zyv15, zyv120, zyv120, zyv120, zyv120, zyv15, zyv120, zyv15, zyv15, zyv118, zyv17, zyv319, zyv353, zyv166, zyv120, zyv120, zyv120, zyv15, zyv36, zyv127, zyv120, zyv15, zyv120, zyv120, zyv15, zyv15, zyv120, zyv120, zyv120, zyv120, zyv120, zyv120, zyv120, zyv120, zyv120, zyv120, zyv15, zyv120, zyv120, zyv120, zyv120, zyv15, zyv15, zyv15, zyv15, zyv120, zyv120, zyv120])
noncomputable def zyr244 : List zC := [zyc248, zyc248, zyc248, zyc240, zyc10, zyc10, zyc10, zyc12, zyc241, zyc8, zyc8, zyc241, zyc8, zyc8, zyc315, zyc250]
noncomputable def zyh262 : zH := (126, [zyr178, zyr179, zyr180, zyr181, zyr182, zyr244, zyr184, zyr185], zym9)
noncomputable def zyc316 : zC := .inr (8, [zyv120, zyv15, zyv15, zyv15, zyv120, zyv120, zyv120, zyv120, zyv15, zyv120, zyv15, zyv15, zyv118, zyv17, zyv319, zyv353, zyv122, zyv120, zyv120, zyv120, zyv15, zyv36, zyv127, zyv120, zyv15, zyv120, zyv120, zyv15, zyv15, zyv120, zyv120, zyv120, zyv120, zyv120, zyv120, zyv120, zyv120, zyv120, zyv120, zyv15, zyv120, zyv120, zyv120, zyv120, zyv15, zyv15, zyv15, zyv15, zyv120, zyv120, zyv120])
noncomputable def zyr245 : List zC := [zyc248, zyc248, zyc248, zyc240, zyc10, zyc10, zyc10, zyc12, zyc241, zyc8, zyc8, zyc241, zyc8, zyc8, zyc316, zyc250]
noncomputable def zyh263 : zH := (126, [zyr178, zyr179, zyr180, zyr181, zyr182, zyr245, zyr184, zyr185], 0)
noncomputable def zyh264 : zH := (126, [zyr178, zyr179, zyr180, zyr181, zyr182, zyr245, zyr184, zyr185], zym9)
def zyv354 : zAV := .inl ((.ofNat 32, .ofNat 40), none)
noncomputable def zyc317 : zC := .inr (8, [zyv120, zyv15, zyv15, zyv15, zyv120, zyv120, zyv120, zyv120, zyv15, zyv120, zyv15, zyv15, zyv118, zyv17, zyv319, zyv354, zyv166, zyv120, zyv120, zyv120, zyv15, zyv36, zyv127, zyv120, zyv15, zyv120, zyv120, zyv15, zyv15, zyv120, zyv120, zyv120, zyv120, zyv120, zyv120, zyv120, zyv120, zyv120, zyv120, zyv15, zyv120, zyv120, zyv120, zyv120, zyv15, zyv15, zyv15, zyv15, zyv120, zyv120, zyv120])
noncomputable def zyr246 : List zC := [zyc248, zyc248, zyc248, zyc240, zyc10, zyc10, zyc10, zyc12, zyc241, zyc8, zyc8, zyc241, zyc8, zyc8, zyc317, zyc250]
noncomputable def zyh265 : zH := (126, [zyr178, zyr179, zyr180, zyr181, zyr182, zyr246, zyr184, zyr185], zym9)
noncomputable def zyc318 : zC := .inr (8, [zyv120, zyv15, zyv15, zyv15, zyv120, zyv120, zyv120, zyv120, zyv15, zyv120, zyv15, zyv15, zyv118, zyv17, zyv319, zyv354, zyv122, zyv120, zyv120, zyv120, zyv15, zyv36, zyv127, zyv120, zyv15, zyv120, zyv120, zyv15, zyv15, zyv120, zyv120, zyv120, zyv120, zyv120, zyv120, zyv120, zyv120, zyv120, zyv120, zyv15, zyv120, zyv120, zyv120, zyv120, zyv15, zyv15, zyv15, zyv15, zyv120, zyv120, zyv120])
noncomputable def zyr247 : List zC := [zyc248, zyc248, zyc248, zyc240, zyc10, zyc10, zyc10, zyc12, zyc241, zyc8, zyc8, zyc241, zyc8, zyc8, zyc318, zyc250]
noncomputable def zyh266 : zH := (126, [zyr178, zyr179, zyr180, zyr181, zyr182, zyr247, zyr184, zyr185], 0)
noncomputable def zyh267 : zH := (126, [zyr178, zyr179, zyr180, zyr181, zyr182, zyr247, zyr184, zyr185], zym9)
def zyv355 : zAV := .inl ((.ofNat 33, .ofNat 40), none)
noncomputable def zyc319 : zC := .inr (8, [zyv120, zyv15, zyv15, zyv15, zyv120, zyv120, zyv120, zyv120, zyv15, zyv120, zyv15, zyv15, zyv118, zyv17, zyv319, zyv355, zyv166, zyv120, zyv120, zyv120, zyv15, zyv36, zyv127, zyv120, zyv15, zyv120, zyv120, zyv15, zyv15, zyv120, zyv120, zyv120, zyv120, zyv120, zyv120, zyv120, zyv120, zyv120, zyv120, zyv15, zyv120, zyv120, zyv120, zyv120, zyv15, zyv15, zyv15, zyv15, zyv120, zyv120, zyv120])
noncomputable def zyr248 : List zC := [zyc248, zyc248, zyc248, zyc240, zyc10, zyc10, zyc10, zyc12, zyc241, zyc8, zyc8, zyc241, zyc8, zyc8, zyc319, zyc250]
noncomputable def zyh268 : zH := (126, [zyr178, zyr179, zyr180, zyr181, zyr182, zyr248, zyr184, zyr185], zym9)
noncomputable def zyc320 : zC := .inr (8, [zyv120, zyv15, zyv15, zyv15, zyv120, zyv120, zyv120, zyv120, zyv15, zyv120, zyv15, zyv15, zyv118, zyv17, zyv319, zyv355, zyv122, zyv120, zyv120, zyv120, zyv15, zyv36, zyv127, zyv120, zyv15, zyv120, zyv120, zyv15, zyv15, zyv120, zyv120, zyv120, zyv120, zyv120, zyv120, zyv120, zyv120, zyv120, zyv120, zyv15, zyv120, zyv120, zyv120, zyv120, zyv15, zyv15, zyv15, zyv15, zyv120, zyv120, zyv120])
noncomputable def zyr249 : List zC := [zyc248, zyc248, zyc248, zyc240, zyc10, zyc10, zyc10, zyc12, zyc241, zyc8, zyc8, zyc241, zyc8, zyc8, zyc320, zyc250]
noncomputable def zyh269 : zH := (126, [zyr178, zyr179, zyr180, zyr181, zyr182, zyr249, zyr184, zyr185], 0)
noncomputable def zyh270 : zH := (126, [zyr178, zyr179, zyr180, zyr181, zyr182, zyr249, zyr184, zyr185], zym9)
def zyv356 : zAV := .inl ((.ofNat 34, .ofNat 40), none)
noncomputable def zyc321 : zC := .inr (8, [zyv120, zyv15, zyv15, zyv15, zyv120, zyv120, zyv120, zyv120, zyv15, zyv120, zyv15, zyv15, zyv118, zyv17, zyv319, zyv356, zyv166, zyv120, zyv120, zyv120, zyv15, zyv36, zyv127, zyv120, zyv15, zyv120, zyv120, zyv15, zyv15, zyv120, zyv120, zyv120, zyv120, zyv120, zyv120, zyv120, zyv120, zyv120, zyv120, zyv15, zyv120, zyv120, zyv120, zyv120, zyv15, zyv15, zyv15, zyv15, zyv120, zyv120, zyv120])
noncomputable def zyr250 : List zC := [zyc248, zyc248, zyc248, zyc240, zyc10, zyc10, zyc10, zyc12, zyc241, zyc8, zyc8, zyc241, zyc8, zyc8, zyc321, zyc250]
noncomputable def zyh271 : zH := (126, [zyr178, zyr179, zyr180, zyr181, zyr182, zyr250, zyr184, zyr185], zym9)
noncomputable def zyc322 : zC := .inr (8, [zyv120, zyv15, zyv15, zyv15, zyv120, zyv120, zyv120, zyv120, zyv15, zyv120, zyv15, zyv15, zyv118, zyv17, zyv319, zyv356, zyv122, zyv120, zyv120, zyv120, zyv15, zyv36, zyv127, zyv120, zyv15, zyv120, zyv120, zyv15, zyv15, zyv120, zyv120, zyv120, zyv120, zyv120, zyv120, zyv120, zyv120, zyv120, zyv120, zyv15, zyv120, zyv120, zyv120, zyv120, zyv15, zyv15, zyv15, zyv15, zyv120, zyv120, zyv120])
noncomputable def zyr251 : List zC := [zyc248, zyc248, zyc248, zyc240, zyc10, zyc10, zyc10, zyc12, zyc241, zyc8, zyc8, zyc241, zyc8, zyc8, zyc322, zyc250]
noncomputable def zyh272 : zH := (126, [zyr178, zyr179, zyr180, zyr181, zyr182, zyr251, zyr184, zyr185], 0)
noncomputable def zyh273 : zH := (126, [zyr178, zyr179, zyr180, zyr181, zyr182, zyr251, zyr184, zyr185], zym9)
def zyv357 : zAV := .inl ((.ofNat 35, .ofNat 40), none)
noncomputable def zyc323 : zC := .inr (8, [zyv120, zyv15, zyv15, zyv15, zyv120, zyv120, zyv120, zyv120, zyv15, zyv120, zyv15, zyv15, zyv118, zyv17, zyv319, zyv357, zyv166, zyv120, zyv120, zyv120, zyv15, zyv36, zyv127, zyv120, zyv15, zyv120, zyv120, zyv15, zyv15, zyv120, zyv120, zyv120, zyv120, zyv120, zyv120, zyv120, zyv120, zyv120, zyv120, zyv15, zyv120, zyv120, zyv120, zyv120, zyv15, zyv15, zyv15, zyv15, zyv120, zyv120, zyv120])
noncomputable def zyr252 : List zC := [zyc248, zyc248, zyc248, zyc240, zyc10, zyc10, zyc10, zyc12, zyc241, zyc8, zyc8, zyc241, zyc8, zyc8, zyc323, zyc250]
noncomputable def zyh274 : zH := (126, [zyr178, zyr179, zyr180, zyr181, zyr182, zyr252, zyr184, zyr185], zym9)
noncomputable def zyc324 : zC := .inr (8, [zyv120, zyv15, zyv15, zyv15, zyv120, zyv120, zyv120, zyv120, zyv15, zyv120, zyv15, zyv15, zyv118, zyv17, zyv319, zyv357, zyv122, zyv120, zyv120, zyv120, zyv15, zyv36, zyv127, zyv120, zyv15, zyv120, zyv120, zyv15, zyv15, zyv120, zyv120, zyv120, zyv120, zyv120, zyv120, zyv120, zyv120, zyv120, zyv120, zyv15, zyv120, zyv120, zyv120, zyv120, zyv15, zyv15, zyv15, zyv15, zyv120, zyv120, zyv120])
noncomputable def zyr253 : List zC := [zyc248, zyc248, zyc248, zyc240, zyc10, zyc10, zyc10, zyc12, zyc241, zyc8, zyc8, zyc241, zyc8, zyc8, zyc324, zyc250]
noncomputable def zyh275 : zH := (126, [zyr178, zyr179, zyr180, zyr181, zyr182, zyr253, zyr184, zyr185], 0)
noncomputable def zyh276 : zH := (126, [zyr178, zyr179, zyr180, zyr181, zyr182, zyr253, zyr184, zyr185], zym9)
def zyv358 : zAV := .inl ((.ofNat 36, .ofNat 40), none)
noncomputable def zyc325 : zC := .inr (8, [zyv120, zyv15, zyv15, zyv15, zyv120, zyv120, zyv120, zyv120, zyv15, zyv120, zyv15, zyv15, zyv118, zyv17, zyv319, zyv358, zyv166, zyv120, zyv120, zyv120, zyv15, zyv36, zyv127, zyv120, zyv15, zyv120, zyv120, zyv15, zyv15, zyv120, zyv120, zyv120, zyv120, zyv120, zyv120, zyv120, zyv120, zyv120, zyv120, zyv15, zyv120, zyv120, zyv120, zyv120, zyv15, zyv15, zyv15, zyv15, zyv120, zyv120, zyv120])
noncomputable def zyr254 : List zC := [zyc248, zyc248, zyc248, zyc240, zyc10, zyc10, zyc10, zyc12, zyc241, zyc8, zyc8, zyc241, zyc8, zyc8, zyc325, zyc250]
noncomputable def zyh277 : zH := (126, [zyr178, zyr179, zyr180, zyr181, zyr182, zyr254, zyr184, zyr185], zym9)
noncomputable def zyc326 : zC := .inr (8, [zyv120, zyv15, zyv15, zyv15, zyv120, zyv120, zyv120, zyv120, zyv15, zyv120, zyv15, zyv15, zyv118, zyv17, zyv319, zyv358, zyv122, zyv120, zyv120, zyv120, zyv15, zyv36, zyv127, zyv120, zyv15, zyv120, zyv120, zyv15, zyv15, zyv120, zyv120, zyv120, zyv120, zyv120, zyv120, zyv120, zyv120, zyv120, zyv120, zyv15, zyv120, zyv120, zyv120, zyv120, zyv15, zyv15, zyv15, zyv15, zyv120, zyv120, zyv120])
noncomputable def zyr255 : List zC := [zyc248, zyc248, zyc248, zyc240, zyc10, zyc10, zyc10, zyc12, zyc241, zyc8, zyc8, zyc241, zyc8, zyc8, zyc326, zyc250]
noncomputable def zyh278 : zH := (126, [zyr178, zyr179, zyr180, zyr181, zyr182, zyr255, zyr184, zyr185], 0)
noncomputable def zyh279 : zH := (126, [zyr178, zyr179, zyr180, zyr181, zyr182, zyr255, zyr184, zyr185], zym9)
def zyv359 : zAV := .inl ((.ofNat 37, .ofNat 40), none)
noncomputable def zyc327 : zC := .inr (8, [zyv120, zyv15, zyv15, zyv15, zyv120, zyv120, zyv120, zyv120, zyv15, zyv120, zyv15, zyv15, zyv118, zyv17, zyv319, zyv359, zyv166, zyv120, zyv120, zyv120, zyv15, zyv36, zyv127, zyv120, zyv15, zyv120, zyv120, zyv15, zyv15, zyv120, zyv120, zyv120, zyv120, zyv120, zyv120, zyv120, zyv120, zyv120, zyv120, zyv15, zyv120, zyv120, zyv120, zyv120, zyv15, zyv15, zyv15, zyv15, zyv120, zyv120, zyv120])
noncomputable def zyr256 : List zC := [zyc248, zyc248, zyc248, zyc240, zyc10, zyc10, zyc10, zyc12, zyc241, zyc8, zyc8, zyc241, zyc8, zyc8, zyc327, zyc250]
noncomputable def zyh280 : zH := (126, [zyr178, zyr179, zyr180, zyr181, zyr182, zyr256, zyr184, zyr185], zym9)
noncomputable def zyc328 : zC := .inr (8, [zyv120, zyv15, zyv15, zyv15, zyv120, zyv120, zyv120, zyv120, zyv15, zyv120, zyv15, zyv15, zyv118, zyv17, zyv319, zyv359, zyv122, zyv120, zyv120, zyv120, zyv15, zyv36, zyv127, zyv120, zyv15, zyv120, zyv120, zyv15, zyv15, zyv120, zyv120, zyv120, zyv120, zyv120, zyv120, zyv120, zyv120, zyv120, zyv120, zyv15, zyv120, zyv120, zyv120, zyv120, zyv15, zyv15, zyv15, zyv15, zyv120, zyv120, zyv120])
noncomputable def zyr257 : List zC := [zyc248, zyc248, zyc248, zyc240, zyc10, zyc10, zyc10, zyc12, zyc241, zyc8, zyc8, zyc241, zyc8, zyc8, zyc328, zyc250]
noncomputable def zyh281 : zH := (126, [zyr178, zyr179, zyr180, zyr181, zyr182, zyr257, zyr184, zyr185], 0)
noncomputable def zyh282 : zH := (126, [zyr178, zyr179, zyr180, zyr181, zyr182, zyr257, zyr184, zyr185], zym9)
def zyv360 : zAV := .inl ((.ofNat 38, .ofNat 40), none)
noncomputable def zyc329 : zC := .inr (8, [zyv120, zyv15, zyv15, zyv15, zyv120, zyv120, zyv120, zyv120, zyv15, zyv120, zyv15, zyv15, zyv118, zyv17, zyv319, zyv360, zyv166, zyv120, zyv120, zyv120, zyv15, zyv36, zyv127, zyv120, zyv15, zyv120, zyv120, zyv15, zyv15, zyv120, zyv120, zyv120, zyv120, zyv120, zyv120, zyv120, zyv120, zyv120, zyv120, zyv15, zyv120, zyv120, zyv120, zyv120, zyv15, zyv15, zyv15, zyv15, zyv120, zyv120, zyv120])
noncomputable def zyr258 : List zC := [zyc248, zyc248, zyc248, zyc240, zyc10, zyc10, zyc10, zyc12, zyc241, zyc8, zyc8, zyc241, zyc8, zyc8, zyc329, zyc250]
noncomputable def zyh283 : zH := (126, [zyr178, zyr179, zyr180, zyr181, zyr182, zyr258, zyr184, zyr185], zym9)
noncomputable def zyc330 : zC := .inr (8, [zyv120, zyv15, zyv15, zyv15, zyv120, zyv120, zyv120, zyv120, zyv15, zyv120, zyv15, zyv15, zyv118, zyv17, zyv319, zyv360, zyv122, zyv120, zyv120, zyv120, zyv15, zyv36, zyv127, zyv120, zyv15, zyv120, zyv120, zyv15, zyv15, zyv120, zyv120, zyv120, zyv120, zyv120, zyv120, zyv120, zyv120, zyv120, zyv120, zyv15, zyv120, zyv120, zyv120, zyv120, zyv15, zyv15, zyv15, zyv15, zyv120, zyv120, zyv120])
noncomputable def zyr259 : List zC := [zyc248, zyc248, zyc248, zyc240, zyc10, zyc10, zyc10, zyc12, zyc241, zyc8, zyc8, zyc241, zyc8, zyc8, zyc330, zyc250]
noncomputable def zyh284 : zH := (126, [zyr178, zyr179, zyr180, zyr181, zyr182, zyr259, zyr184, zyr185], 0)
noncomputable def zyh285 : zH := (126, [zyr178, zyr179, zyr180, zyr181, zyr182, zyr259, zyr184, zyr185], zym9)
def zyv361 : zAV := .inl ((.ofNat 39, .ofNat 40), none)
noncomputable def zyc331 : zC := .inr (8, [zyv120, zyv15, zyv15, zyv15, zyv120, zyv120, zyv120, zyv120, zyv15, zyv120, zyv15, zyv15, zyv118, zyv17, zyv319, zyv361, zyv166, zyv120, zyv120, zyv120, zyv15, zyv36, zyv127, zyv120, zyv15, zyv120, zyv120, zyv15, zyv15, zyv120, zyv120, zyv120, zyv120, zyv120, zyv120, zyv120, zyv120, zyv120, zyv120, zyv15, zyv120, zyv120, zyv120, zyv120, zyv15, zyv15, zyv15, zyv15, zyv120, zyv120, zyv120])
noncomputable def zyr260 : List zC := [zyc248, zyc248, zyc248, zyc240, zyc10, zyc10, zyc10, zyc12, zyc241, zyc8, zyc8, zyc241, zyc8, zyc8, zyc331, zyc250]
noncomputable def zyh286 : zH := (126, [zyr178, zyr179, zyr180, zyr181, zyr182, zyr260, zyr184, zyr185], zym9)
noncomputable def zyc332 : zC := .inr (8, [zyv120, zyv15, zyv15, zyv15, zyv120, zyv120, zyv120, zyv120, zyv15, zyv120, zyv15, zyv15, zyv118, zyv17, zyv319, zyv361, zyv122, zyv120, zyv120, zyv120, zyv15, zyv36, zyv127, zyv120, zyv15, zyv120, zyv120, zyv15, zyv15, zyv120, zyv120, zyv120, zyv120, zyv120, zyv120, zyv120, zyv120, zyv120, zyv120, zyv15, zyv120, zyv120, zyv120, zyv120, zyv15, zyv15, zyv15, zyv15, zyv120, zyv120, zyv120])
noncomputable def zyr261 : List zC := [zyc248, zyc248, zyc248, zyc240, zyc10, zyc10, zyc10, zyc12, zyc241, zyc8, zyc8, zyc241, zyc8, zyc8, zyc332, zyc250]
noncomputable def zyh287 : zH := (126, [zyr178, zyr179, zyr180, zyr181, zyr182, zyr261, zyr184, zyr185], 0)
noncomputable def zyh288 : zH := (126, [zyr178, zyr179, zyr180, zyr181, zyr182, zyr261, zyr184, zyr185], zym9)
noncomputable def zyc333 : zC := .inr (8, [zyv120, zyv15, zyv15, zyv15, zyv120, zyv120, zyv120, zyv120, zyv15, zyv120, zyv15, zyv15, zyv118, zyv17, zyv319, zyv319, zyv166, zyv120, zyv120, zyv120, zyv15, zyv36, zyv127, zyv120, zyv15, zyv120, zyv120, zyv15, zyv15, zyv120, zyv120, zyv120, zyv120, zyv120, zyv120, zyv120, zyv120, zyv120, zyv120, zyv15, zyv120, zyv120, zyv120, zyv120, zyv15, zyv15, zyv15, zyv15, zyv120, zyv120, zyv120])
noncomputable def zyr262 : List zC := [zyc248, zyc248, zyc248, zyc240, zyc10, zyc10, zyc10, zyc12, zyc241, zyc8, zyc8, zyc241, zyc8, zyc8, zyc333, zyc250]
noncomputable def zyh289 : zH := (126, [zyr178, zyr179, zyr180, zyr181, zyr182, zyr262, zyr184, zyr185], zym9)
noncomputable def zyc334 : zC := .inr (8, [zyv120, zyv15, zyv15, zyv15, zyv120, zyv120, zyv120, zyv120, zyv15, zyv120, zyv15, zyv15, zyv118, zyv17, zyv319, zyv319, zyv122, zyv120, zyv120, zyv120, zyv15, zyv36, zyv127, zyv120, zyv15, zyv120, zyv120, zyv15, zyv15, zyv120, zyv120, zyv120, zyv120, zyv120, zyv120, zyv120, zyv120, zyv120, zyv120, zyv15, zyv120, zyv120, zyv120, zyv120, zyv15, zyv15, zyv15, zyv15, zyv120, zyv120, zyv120])
noncomputable def zyr263 : List zC := [zyc248, zyc248, zyc248, zyc240, zyc10, zyc10, zyc10, zyc12, zyc241, zyc8, zyc8, zyc241, zyc8, zyc8, zyc334, zyc250]
noncomputable def zyh290 : zH := (126, [zyr178, zyr179, zyr180, zyr181, zyr182, zyr263, zyr184, zyr185], 0)
def zym10 : Nat := 6500306654454774548675876760616896508109346552124831932029443559218907553669463758726352631709731503793261530863263327501988190967694514984434479518338654708171134584854581715405917154093571958730338053288946331355771981468121982490924222342258288224374166939177395746286692183405570734812928502680972537333013179107161034571447136164814512010629004763628615190553463763827165633028986714796086261630726199753696232637084953671569006724863188984565016480397542976025541910388121282646958842699075910962851343977643922442881125379073517431670071753221324579299297712154454867921116436375710359709276146040887072464055852977019598380191130910174853271610618606687411570538009164545831346250332052885948630558903017600590496391564691892947874602569830399386340423879227658650326840732334196728297754692271882140770119794671270814718335054394027709744231648701559750327974770748955237989245645118717635194217548049923320963673382778597701342162478203202289151391864353250305320907815463161474037625481335020462774752129029210504280883402739852554307294426973168216765263376542357911735475039381725682199969128649934637772963098318866108475885026960501443439909374625758617643742218441497372766566136746474051874674304105469352671567522601047112701295976504136776002408871542890900501801218677039865304252721884075030859922142760851244713343027914899784839281183560614161914896721719007097686381830803851237430262676113749428494540148257377866400864307205924434188565550774641665726865140231515681855970684124353020124854238010763775547228779630808220254787564236147981626490577774532024569269232098977614180710120895172661098206146753678300313305511985429161968876186163685212308749010219483954388402326943845680571803735023194444159051414542671153046930752088468145447133224998926753325222751755713336943546690799927296
noncomputable def zyh291 : zH := (126, [zyr178, zyr179, zyr180, zyr181, zyr182, zyr263, zyr184, zyr185], zym10)
def zyv362 : zAV := .inl ((.ofNat 48, .ofNat 48), none)
def zyv363 : zAV := .inl ((.ofNat 10, .ofNat 10), none)
noncomputable def zyc335 : zC := .inr (8, [zyv120, zyv15, zyv15, zyv15, zyv120, zyv120, zyv120, zyv120, zyv15, zyv120, zyv15, zyv15, zyv118, zyv17, zyv319, zyv361, zyv17, zyv120, zyv120, zyv120, zyv15, zyv36, zyv127, zyv120, zyv15, zyv120, zyv120, zyv15, zyv15, zyv120, zyv120, zyv120, zyv120, zyv120, zyv120, zyv120, zyv120, zyv120, zyv120, zyv15, zyv120, zyv120, zyv120, zyv120, zyv15, zyv15, zyv15, zyv15, zyv120, zyv120, zyv120])
noncomputable def zyr264 : List zC := [zyc248, zyc248, zyc248, zyc240, zyc10, zyc10, zyc10, zyc12, zyc241, zyc8, zyc8, zyc241, zyc8, zyc8, zyc335, zyc250]
def zym11 : Nat := 9750459981682161823013815140925344762164019828187247898044165338828361330504195638089528947564597255689892296294894991252982286451541772476651719277507982062256701877281872573108875731140357938095507079933419497033657972202182973736386333513387432336561250408766093619430038275108356102219392754021458805999519768660741551857170704247221768015943507145442922785830195645740748449543480072194129392446089299630544348955627430507353510087294783476847524720596314464038312865582181923970438264048613866444277015966465883664321688068610276147505107629831986868948946568231682301881674654563565539563914219061330608696083779465529397570286696365262279907415927910031117355807013746818747019375498079328922945838354526400885744587347037839421811903854745599079510635818841487975490261098501295092446632038407823211155179692006906222077502581591041564616347473052339625491962156123432856983868467678076452791326322074884981445510074167896552013243717304803433727087796529875457981361723194742211056438222002530694162128193543815756421325104109778831460941640459752325147895064813536867603212559072588523299953692974901956659444647478299162713827540440752165159864061938637926465613327662246059149849205119711077812011456158204029007351283901570669051943964756205164003613307314336350752701828015559797956379082826112546289883214141276867070014541872349677258921775340921242872345082578510646529572746205776856145394014170624142741810222386066799601296460808886651282848326161962498590297710347273522783956026186529530187281357016145663320843169446212330382181346354221972439735866661798036853903848148466421271065181342758991647309220130517450469958267978143742953314279245527818463123515329225931582603490415768520857705602534791666238577121814006729570396128132702218170699837498390129987834127633570005415320036199890944
noncomputable def zyh292 : zH := (126, [zyr178, zyr179, zyr180, zyr181, zyr182, zyr264, zyr184, zyr185], zym11)
noncomputable def zyh293 : zH := (126, [zyr178, zyr179, zyr180, zyr181, zyr182, zyr262, zyr184, zyr185], zym11)
noncomputable def zyh294 : zH := (126, [zyr178, zyr179, zyr180, zyr181, zyr182, zyr261, zyr184, zyr185], zym11)
noncomputable def zyc336 : zC := .inr (8, [zyv120, zyv15, zyv15, zyv15, zyv120, zyv120, zyv120, zyv120, zyv15, zyv120, zyv15, zyv15, zyv118, zyv17, zyv319, zyv360, zyv17, zyv120, zyv120, zyv120, zyv15, zyv36, zyv127, zyv120, zyv15, zyv120, zyv120, zyv15, zyv15, zyv120, zyv120, zyv120, zyv120, zyv120, zyv120, zyv120, zyv120, zyv120, zyv120, zyv15, zyv120, zyv120, zyv120, zyv120, zyv15, zyv15, zyv15, zyv15, zyv120, zyv120, zyv120])
noncomputable def zyr265 : List zC := [zyc248, zyc248, zyc248, zyc240, zyc10, zyc10, zyc10, zyc12, zyc241, zyc8, zyc8, zyc241, zyc8, zyc8, zyc336, zyc250]
noncomputable def zyh295 : zH := (126, [zyr178, zyr179, zyr180, zyr181, zyr182, zyr265, zyr184, zyr185], zym11)
noncomputable def zyh296 : zH := (126, [zyr178, zyr179, zyr180, zyr181, zyr182, zyr260, zyr184, zyr185], zym11)
noncomputable def zyh297 : zH := (126, [zyr178, zyr179, zyr180, zyr181, zyr182, zyr259, zyr184, zyr185], zym11)
noncomputable def zyc337 : zC := .inr (8, [zyv120, zyv15, zyv15, zyv15, zyv120, zyv120, zyv120, zyv120, zyv15, zyv120, zyv15, zyv15, zyv118, zyv17, zyv319, zyv359, zyv17, zyv120, zyv120, zyv120, zyv15, zyv36, zyv127, zyv120, zyv15, zyv120, zyv120, zyv15, zyv15, zyv120, zyv120, zyv120, zyv120, zyv120, zyv120, zyv120, zyv120, zyv120, zyv120, zyv15, zyv120, zyv120, zyv120, zyv120, zyv15, zyv15, zyv15, zyv15, zyv120, zyv120, zyv120])
noncomputable def zyr266 : List zC := [zyc248, zyc248, zyc248, zyc240, zyc10, zyc10, zyc10, zyc12, zyc241, zyc8, zyc8, zyc241, zyc8, zyc8, zyc337, zyc250]
noncomputable def zyh298 : zH := (126, [zyr178, zyr179, zyr180, zyr181, zyr182, zyr266, zyr184, zyr185], zym11)
noncomputable def zyh299 : zH := (126, [zyr178, zyr179, zyr180, zyr181, zyr182, zyr258, zyr184, zyr185], zym11)
noncomputable def zyh300 : zH := (126, [zyr178, zyr179, zyr180, zyr181, zyr182, zyr257, zyr184, zyr185], zym11)
noncomputable def zyc338 : zC := .inr (8, [zyv120, zyv15, zyv15, zyv15, zyv120, zyv120, zyv120, zyv120, zyv15, zyv120, zyv15, zyv15, zyv118, zyv17, zyv319, zyv358, zyv17, zyv120, zyv120, zyv120, zyv15, zyv36, zyv127, zyv120, zyv15, zyv120, zyv120, zyv15, zyv15, zyv120, zyv120, zyv120, zyv120, zyv120, zyv120, zyv120, zyv120, zyv120, zyv120, zyv15, zyv120, zyv120, zyv120, zyv120, zyv15, zyv15, zyv15, zyv15, zyv120, zyv120, zyv120])
noncomputable def zyr267 : List zC := [zyc248, zyc248, zyc248, zyc240, zyc10, zyc10, zyc10, zyc12, zyc241, zyc8, zyc8, zyc241, zyc8, zyc8, zyc338, zyc250]
noncomputable def zyh301 : zH := (126, [zyr178, zyr179, zyr180, zyr181, zyr182, zyr267, zyr184, zyr185], zym11)
noncomputable def zyh302 : zH := (126, [zyr178, zyr179, zyr180, zyr181, zyr182, zyr256, zyr184, zyr185], zym11)
noncomputable def zyh303 : zH := (126, [zyr178, zyr179, zyr180, zyr181, zyr182, zyr255, zyr184, zyr185], zym11)
noncomputable def zyc339 : zC := .inr (8, [zyv120, zyv15, zyv15, zyv15, zyv120, zyv120, zyv120, zyv120, zyv15, zyv120, zyv15, zyv15, zyv118, zyv17, zyv319, zyv357, zyv17, zyv120, zyv120, zyv120, zyv15, zyv36, zyv127, zyv120, zyv15, zyv120, zyv120, zyv15, zyv15, zyv120, zyv120, zyv120, zyv120, zyv120, zyv120, zyv120, zyv120, zyv120, zyv120, zyv15, zyv120, zyv120, zyv120, zyv120, zyv15, zyv15, zyv15, zyv15, zyv120, zyv120, zyv120])
noncomputable def zyr268 : List zC := [zyc248, zyc248, zyc248, zyc240, zyc10, zyc10, zyc10, zyc12, zyc241, zyc8, zyc8, zyc241, zyc8, zyc8, zyc339, zyc250]
noncomputable def zyh304 : zH := (126, [zyr178, zyr179, zyr180, zyr181, zyr182, zyr268, zyr184, zyr185], zym11)
noncomputable def zyh305 : zH := (126, [zyr178, zyr179, zyr180, zyr181, zyr182, zyr254, zyr184, zyr185], zym11)
noncomputable def zyh306 : zH := (126, [zyr178, zyr179, zyr180, zyr181, zyr182, zyr253, zyr184, zyr185], zym11)
noncomputable def zyc340 : zC := .inr (8, [zyv120, zyv15, zyv15, zyv15, zyv120, zyv120, zyv120, zyv120, zyv15, zyv120, zyv15, zyv15, zyv118, zyv17, zyv319, zyv356, zyv17, zyv120, zyv120, zyv120, zyv15, zyv36, zyv127, zyv120, zyv15, zyv120, zyv120, zyv15, zyv15, zyv120, zyv120, zyv120, zyv120, zyv120, zyv120, zyv120, zyv120, zyv120, zyv120, zyv15, zyv120, zyv120, zyv120, zyv120, zyv15, zyv15, zyv15, zyv15, zyv120, zyv120, zyv120])
noncomputable def zyr269 : List zC := [zyc248, zyc248, zyc248, zyc240, zyc10, zyc10, zyc10, zyc12, zyc241, zyc8, zyc8, zyc241, zyc8, zyc8, zyc340, zyc250]
noncomputable def zyh307 : zH := (126, [zyr178, zyr179, zyr180, zyr181, zyr182, zyr269, zyr184, zyr185], zym11)
noncomputable def zyh308 : zH := (126, [zyr178, zyr179, zyr180, zyr181, zyr182, zyr252, zyr184, zyr185], zym11)
noncomputable def zyh309 : zH := (126, [zyr178, zyr179, zyr180, zyr181, zyr182, zyr251, zyr184, zyr185], zym11)
noncomputable def zyc341 : zC := .inr (8, [zyv120, zyv15, zyv15, zyv15, zyv120, zyv120, zyv120, zyv120, zyv15, zyv120, zyv15, zyv15, zyv118, zyv17, zyv319, zyv355, zyv17, zyv120, zyv120, zyv120, zyv15, zyv36, zyv127, zyv120, zyv15, zyv120, zyv120, zyv15, zyv15, zyv120, zyv120, zyv120, zyv120, zyv120, zyv120, zyv120, zyv120, zyv120, zyv120, zyv15, zyv120, zyv120, zyv120, zyv120, zyv15, zyv15, zyv15, zyv15, zyv120, zyv120, zyv120])
noncomputable def zyr270 : List zC := [zyc248, zyc248, zyc248, zyc240, zyc10, zyc10, zyc10, zyc12, zyc241, zyc8, zyc8, zyc241, zyc8, zyc8, zyc341, zyc250]
noncomputable def zyh310 : zH := (126, [zyr178, zyr179, zyr180, zyr181, zyr182, zyr270, zyr184, zyr185], zym11)
noncomputable def zyh311 : zH := (126, [zyr178, zyr179, zyr180, zyr181, zyr182, zyr250, zyr184, zyr185], zym11)
noncomputable def zyh312 : zH := (126, [zyr178, zyr179, zyr180, zyr181, zyr182, zyr249, zyr184, zyr185], zym11)
noncomputable def zyc342 : zC := .inr (8, [zyv120, zyv15, zyv15, zyv15, zyv120, zyv120, zyv120, zyv120, zyv15, zyv120, zyv15, zyv15, zyv118, zyv17, zyv319, zyv354, zyv17, zyv120, zyv120, zyv120, zyv15, zyv36, zyv127, zyv120, zyv15, zyv120, zyv120, zyv15, zyv15, zyv120, zyv120, zyv120, zyv120, zyv120, zyv120, zyv120, zyv120, zyv120, zyv120, zyv15, zyv120, zyv120, zyv120, zyv120, zyv15, zyv15, zyv15, zyv15, zyv120, zyv120, zyv120])
noncomputable def zyr271 : List zC := [zyc248, zyc248, zyc248, zyc240, zyc10, zyc10, zyc10, zyc12, zyc241, zyc8, zyc8, zyc241, zyc8, zyc8, zyc342, zyc250]
noncomputable def zyh313 : zH := (126, [zyr178, zyr179, zyr180, zyr181, zyr182, zyr271, zyr184, zyr185], zym11)
noncomputable def zyh314 : zH := (126, [zyr178, zyr179, zyr180, zyr181, zyr182, zyr248, zyr184, zyr185], zym11)
noncomputable def zyh315 : zH := (126, [zyr178, zyr179, zyr180, zyr181, zyr182, zyr247, zyr184, zyr185], zym11)
noncomputable def zyc343 : zC := .inr (8, [zyv120, zyv15, zyv15, zyv15, zyv120, zyv120, zyv120, zyv120, zyv15, zyv120, zyv15, zyv15, zyv118, zyv17, zyv319, zyv353, zyv17, zyv120, zyv120, zyv120, zyv15, zyv36, zyv127, zyv120, zyv15, zyv120, zyv120, zyv15, zyv15, zyv120, zyv120, zyv120, zyv120, zyv120, zyv120, zyv120, zyv120, zyv120, zyv120, zyv15, zyv120, zyv120, zyv120, zyv120, zyv15, zyv15, zyv15, zyv15, zyv120, zyv120, zyv120])
noncomputable def zyr272 : List zC := [zyc248, zyc248, zyc248, zyc240, zyc10, zyc10, zyc10, zyc12, zyc241, zyc8, zyc8, zyc241, zyc8, zyc8, zyc343, zyc250]
noncomputable def zyh316 : zH := (126, [zyr178, zyr179, zyr180, zyr181, zyr182, zyr272, zyr184, zyr185], zym11)
noncomputable def zyh317 : zH := (126, [zyr178, zyr179, zyr180, zyr181, zyr182, zyr246, zyr184, zyr185], zym11)
noncomputable def zyh318 : zH := (126, [zyr178, zyr179, zyr180, zyr181, zyr182, zyr245, zyr184, zyr185], zym11)
/-! X8_passes -/
noncomputable def zyx9a : List zAV := [zyv320, zyv321]
noncomputable def zyx9q : List (Option zAV × zH) := [(some (.inl ((.ofNat 0, .ofNat 0), none)), zyh174), (some (.inl ((.ofNat 1, .ofNat 1), none)), zyh175)]
noncomputable def zyx9d : zKw := (263, 2, 3, 420, zyx9a, zyh173, zyx9q)
set_option maxRecDepth 100000 in
theorem zyx9e : zrunw zprog2 (zovW []) 100000 zcut0 3 420 kX8_passes (zkinL zyx9q) 0 (zargs 0 zyx9a, [], (zyh173.1, zyh173.2.1, 0), 0, 0) = true := by decide +kernel
theorem zyx9 {l : Launch} {D : va_G} {tys : List (ClassId × FieldType)} {o : zO} {z : Nat} (E : zEnv tys) : zKnW l D vwCl tys o z (zXX o z) zTs zprog2 zyx9d :=
  zkn_ml E (fun g => fun _ h => absurd h List.not_mem_nil) (show zget zprog2 263 = some mX8_passes from rfl) rfl (by decide) (by decide) (by decide) (by decide) zyx9e
/-! X8_passes -/
noncomputable def zyx10a : List zAV := [zyv320, zyv323]
noncomputable def zyx10q : List (Option zAV × zH) := [(some (.inl ((.ofNat 0, .ofNat 0), none)), zyh177), (some (.inl ((.ofNat 1, .ofNat 1), none)), zyh178)]
noncomputable def zyx10d : zKw := (263, 2, 3, 420, zyx10a, zyh176, zyx10q)
set_option maxRecDepth 100000 in
theorem zyx10e : zrunw zprog2 (zovW []) 100000 zcut0 3 420 kX8_passes (zkinL zyx10q) 0 (zargs 0 zyx10a, [], (zyh176.1, zyh176.2.1, 0), 0, 0) = true := by decide +kernel
theorem zyx10 {l : Launch} {D : va_G} {tys : List (ClassId × FieldType)} {o : zO} {z : Nat} (E : zEnv tys) : zKnW l D vwCl tys o z (zXX o z) zTs zprog2 zyx10d :=
  zkn_ml E (fun g => fun _ h => absurd h List.not_mem_nil) (show zget zprog2 263 = some mX8_passes from rfl) rfl (by decide) (by decide) (by decide) (by decide) zyx10e
/-! X8_passes -/
noncomputable def zyx11a : List zAV := [zyv320, zyv323]
noncomputable def zyx11q : List (Option zAV × zH) := [(some (.inl ((.ofNat 0, .ofNat 0), none)), zyh180), (some (.inl ((.ofNat 1, .ofNat 1), none)), zyh181)]
noncomputable def zyx11d : zKw := (263, 2, 3, 420, zyx11a, zyh179, zyx11q)
set_option maxRecDepth 100000 in
theorem zyx11e : zrunw zprog2 (zovW []) 100000 zcut0 3 420 kX8_passes (zkinL zyx11q) 0 (zargs 0 zyx11a, [], (zyh179.1, zyh179.2.1, 0), 0, 0) = true := by decide +kernel
theorem zyx11 {l : Launch} {D : va_G} {tys : List (ClassId × FieldType)} {o : zO} {z : Nat} (E : zEnv tys) : zKnW l D vwCl tys o z (zXX o z) zTs zprog2 zyx11d :=
  zkn_ml E (fun g => fun _ h => absurd h List.not_mem_nil) (show zget zprog2 263 = some mX8_passes from rfl) rfl (by decide) (by decide) (by decide) (by decide) zyx11e
/-! X8_passes -/
noncomputable def zyx12a : List zAV := [zyv320, zyv323]
noncomputable def zyx12q : List (Option zAV × zH) := [(some (.inl ((.ofNat 0, .ofNat 0), none)), zyh183), (some (.inl ((.ofNat 1, .ofNat 1), none)), zyh184)]
noncomputable def zyx12d : zKw := (263, 2, 3, 420, zyx12a, zyh182, zyx12q)
set_option maxRecDepth 100000 in
theorem zyx12e : zrunw zprog2 (zovW []) 100000 zcut0 3 420 kX8_passes (zkinL zyx12q) 0 (zargs 0 zyx12a, [], (zyh182.1, zyh182.2.1, 0), 0, 0) = true := by decide +kernel
theorem zyx12 {l : Launch} {D : va_G} {tys : List (ClassId × FieldType)} {o : zO} {z : Nat} (E : zEnv tys) : zKnW l D vwCl tys o z (zXX o z) zTs zprog2 zyx12d :=
  zkn_ml E (fun g => fun _ h => absurd h List.not_mem_nil) (show zget zprog2 263 = some mX8_passes from rfl) rfl (by decide) (by decide) (by decide) (by decide) zyx12e
/-! X8_passes -/
noncomputable def zyx13a : List zAV := [zyv320, zyv323]
noncomputable def zyx13q : List (Option zAV × zH) := [(some (.inl ((.ofNat 0, .ofNat 0), none)), zyh186), (some (.inl ((.ofNat 1, .ofNat 1), none)), zyh187)]
noncomputable def zyx13d : zKw := (263, 2, 3, 420, zyx13a, zyh185, zyx13q)
set_option maxRecDepth 100000 in
theorem zyx13e : zrunw zprog2 (zovW []) 100000 zcut0 3 420 kX8_passes (zkinL zyx13q) 0 (zargs 0 zyx13a, [], (zyh185.1, zyh185.2.1, 0), 0, 0) = true := by decide +kernel
theorem zyx13 {l : Launch} {D : va_G} {tys : List (ClassId × FieldType)} {o : zO} {z : Nat} (E : zEnv tys) : zKnW l D vwCl tys o z (zXX o z) zTs zprog2 zyx13d :=
  zkn_ml E (fun g => fun _ h => absurd h List.not_mem_nil) (show zget zprog2 263 = some mX8_passes from rfl) rfl (by decide) (by decide) (by decide) (by decide) zyx13e
/-! X8_passes -/
noncomputable def zyx14a : List zAV := [zyv320, zyv323]
noncomputable def zyx14q : List (Option zAV × zH) := [(some (.inl ((.ofNat 0, .ofNat 0), none)), zyh189), (some (.inl ((.ofNat 1, .ofNat 1), none)), zyh190)]
noncomputable def zyx14d : zKw := (263, 2, 3, 420, zyx14a, zyh188, zyx14q)
set_option maxRecDepth 100000 in
theorem zyx14e : zrunw zprog2 (zovW []) 100000 zcut0 3 420 kX8_passes (zkinL zyx14q) 0 (zargs 0 zyx14a, [], (zyh188.1, zyh188.2.1, 0), 0, 0) = true := by decide +kernel
theorem zyx14 {l : Launch} {D : va_G} {tys : List (ClassId × FieldType)} {o : zO} {z : Nat} (E : zEnv tys) : zKnW l D vwCl tys o z (zXX o z) zTs zprog2 zyx14d :=
  zkn_ml E (fun g => fun _ h => absurd h List.not_mem_nil) (show zget zprog2 263 = some mX8_passes from rfl) rfl (by decide) (by decide) (by decide) (by decide) zyx14e
/-! X8_passes -/
noncomputable def zyx15a : List zAV := [zyv320, zyv323]
noncomputable def zyx15q : List (Option zAV × zH) := [(some (.inl ((.ofNat 0, .ofNat 0), none)), zyh192), (some (.inl ((.ofNat 1, .ofNat 1), none)), zyh193)]
noncomputable def zyx15d : zKw := (263, 2, 3, 420, zyx15a, zyh191, zyx15q)
set_option maxRecDepth 100000 in
theorem zyx15e : zrunw zprog2 (zovW []) 100000 zcut0 3 420 kX8_passes (zkinL zyx15q) 0 (zargs 0 zyx15a, [], (zyh191.1, zyh191.2.1, 0), 0, 0) = true := by decide +kernel
theorem zyx15 {l : Launch} {D : va_G} {tys : List (ClassId × FieldType)} {o : zO} {z : Nat} (E : zEnv tys) : zKnW l D vwCl tys o z (zXX o z) zTs zprog2 zyx15d :=
  zkn_ml E (fun g => fun _ h => absurd h List.not_mem_nil) (show zget zprog2 263 = some mX8_passes from rfl) rfl (by decide) (by decide) (by decide) (by decide) zyx15e
/-! X8_passes -/
noncomputable def zyx16a : List zAV := [zyv320, zyv323]
noncomputable def zyx16q : List (Option zAV × zH) := [(some (.inl ((.ofNat 0, .ofNat 0), none)), zyh195), (some (.inl ((.ofNat 1, .ofNat 1), none)), zyh196)]
noncomputable def zyx16d : zKw := (263, 2, 3, 420, zyx16a, zyh194, zyx16q)
set_option maxRecDepth 100000 in
theorem zyx16e : zrunw zprog2 (zovW []) 100000 zcut0 3 420 kX8_passes (zkinL zyx16q) 0 (zargs 0 zyx16a, [], (zyh194.1, zyh194.2.1, 0), 0, 0) = true := by decide +kernel
theorem zyx16 {l : Launch} {D : va_G} {tys : List (ClassId × FieldType)} {o : zO} {z : Nat} (E : zEnv tys) : zKnW l D vwCl tys o z (zXX o z) zTs zprog2 zyx16d :=
  zkn_ml E (fun g => fun _ h => absurd h List.not_mem_nil) (show zget zprog2 263 = some mX8_passes from rfl) rfl (by decide) (by decide) (by decide) (by decide) zyx16e
/-! X8_passes -/
noncomputable def zyx17a : List zAV := [zyv320, zyv323]
noncomputable def zyx17q : List (Option zAV × zH) := [(some (.inl ((.ofNat 0, .ofNat 0), none)), zyh198), (some (.inl ((.ofNat 1, .ofNat 1), none)), zyh199)]
noncomputable def zyx17d : zKw := (263, 2, 3, 420, zyx17a, zyh197, zyx17q)
set_option maxRecDepth 100000 in
theorem zyx17e : zrunw zprog2 (zovW []) 100000 zcut0 3 420 kX8_passes (zkinL zyx17q) 0 (zargs 0 zyx17a, [], (zyh197.1, zyh197.2.1, 0), 0, 0) = true := by decide +kernel
theorem zyx17 {l : Launch} {D : va_G} {tys : List (ClassId × FieldType)} {o : zO} {z : Nat} (E : zEnv tys) : zKnW l D vwCl tys o z (zXX o z) zTs zprog2 zyx17d :=
  zkn_ml E (fun g => fun _ h => absurd h List.not_mem_nil) (show zget zprog2 263 = some mX8_passes from rfl) rfl (by decide) (by decide) (by decide) (by decide) zyx17e
/-! X8_passes -/
noncomputable def zyx18a : List zAV := [zyv320, zyv323]
noncomputable def zyx18q : List (Option zAV × zH) := [(some (.inl ((.ofNat 0, .ofNat 0), none)), zyh201), (some (.inl ((.ofNat 1, .ofNat 1), none)), zyh202)]
noncomputable def zyx18d : zKw := (263, 2, 3, 420, zyx18a, zyh200, zyx18q)
set_option maxRecDepth 100000 in
theorem zyx18e : zrunw zprog2 (zovW []) 100000 zcut0 3 420 kX8_passes (zkinL zyx18q) 0 (zargs 0 zyx18a, [], (zyh200.1, zyh200.2.1, 0), 0, 0) = true := by decide +kernel
theorem zyx18 {l : Launch} {D : va_G} {tys : List (ClassId × FieldType)} {o : zO} {z : Nat} (E : zEnv tys) : zKnW l D vwCl tys o z (zXX o z) zTs zprog2 zyx18d :=
  zkn_ml E (fun g => fun _ h => absurd h List.not_mem_nil) (show zget zprog2 263 = some mX8_passes from rfl) rfl (by decide) (by decide) (by decide) (by decide) zyx18e
/-! X8_passes -/
noncomputable def zyx19a : List zAV := [zyv320, zyv323]
noncomputable def zyx19q : List (Option zAV × zH) := [(some (.inl ((.ofNat 0, .ofNat 0), none)), zyh204), (some (.inl ((.ofNat 1, .ofNat 1), none)), zyh205)]
noncomputable def zyx19d : zKw := (263, 2, 3, 420, zyx19a, zyh203, zyx19q)
set_option maxRecDepth 100000 in
theorem zyx19e : zrunw zprog2 (zovW []) 100000 zcut0 3 420 kX8_passes (zkinL zyx19q) 0 (zargs 0 zyx19a, [], (zyh203.1, zyh203.2.1, 0), 0, 0) = true := by decide +kernel
theorem zyx19 {l : Launch} {D : va_G} {tys : List (ClassId × FieldType)} {o : zO} {z : Nat} (E : zEnv tys) : zKnW l D vwCl tys o z (zXX o z) zTs zprog2 zyx19d :=
  zkn_ml E (fun g => fun _ h => absurd h List.not_mem_nil) (show zget zprog2 263 = some mX8_passes from rfl) rfl (by decide) (by decide) (by decide) (by decide) zyx19e
/-! X8_passes -/
noncomputable def zyx20a : List zAV := [zyv320, zyv323]
noncomputable def zyx20q : List (Option zAV × zH) := [(some (.inl ((.ofNat 0, .ofNat 0), none)), zyh207), (some (.inl ((.ofNat 1, .ofNat 1), none)), zyh208)]
noncomputable def zyx20d : zKw := (263, 2, 3, 420, zyx20a, zyh206, zyx20q)
set_option maxRecDepth 100000 in
theorem zyx20e : zrunw zprog2 (zovW []) 100000 zcut0 3 420 kX8_passes (zkinL zyx20q) 0 (zargs 0 zyx20a, [], (zyh206.1, zyh206.2.1, 0), 0, 0) = true := by decide +kernel
theorem zyx20 {l : Launch} {D : va_G} {tys : List (ClassId × FieldType)} {o : zO} {z : Nat} (E : zEnv tys) : zKnW l D vwCl tys o z (zXX o z) zTs zprog2 zyx20d :=
  zkn_ml E (fun g => fun _ h => absurd h List.not_mem_nil) (show zget zprog2 263 = some mX8_passes from rfl) rfl (by decide) (by decide) (by decide) (by decide) zyx20e
/-! X8_passes -/
noncomputable def zyx21a : List zAV := [zyv320, zyv323]
noncomputable def zyx21q : List (Option zAV × zH) := [(some (.inl ((.ofNat 0, .ofNat 0), none)), zyh210), (some (.inl ((.ofNat 1, .ofNat 1), none)), zyh211)]
noncomputable def zyx21d : zKw := (263, 2, 3, 420, zyx21a, zyh209, zyx21q)
set_option maxRecDepth 100000 in
theorem zyx21e : zrunw zprog2 (zovW []) 100000 zcut0 3 420 kX8_passes (zkinL zyx21q) 0 (zargs 0 zyx21a, [], (zyh209.1, zyh209.2.1, 0), 0, 0) = true := by decide +kernel
theorem zyx21 {l : Launch} {D : va_G} {tys : List (ClassId × FieldType)} {o : zO} {z : Nat} (E : zEnv tys) : zKnW l D vwCl tys o z (zXX o z) zTs zprog2 zyx21d :=
  zkn_ml E (fun g => fun _ h => absurd h List.not_mem_nil) (show zget zprog2 263 = some mX8_passes from rfl) rfl (by decide) (by decide) (by decide) (by decide) zyx21e
/-! X8_passes -/
noncomputable def zyx22a : List zAV := [zyv320, zyv323]
noncomputable def zyx22q : List (Option zAV × zH) := [(some (.inl ((.ofNat 0, .ofNat 0), none)), zyh213), (some (.inl ((.ofNat 1, .ofNat 1), none)), zyh214)]
noncomputable def zyx22d : zKw := (263, 2, 3, 420, zyx22a, zyh212, zyx22q)
set_option maxRecDepth 100000 in
theorem zyx22e : zrunw zprog2 (zovW []) 100000 zcut0 3 420 kX8_passes (zkinL zyx22q) 0 (zargs 0 zyx22a, [], (zyh212.1, zyh212.2.1, 0), 0, 0) = true := by decide +kernel
theorem zyx22 {l : Launch} {D : va_G} {tys : List (ClassId × FieldType)} {o : zO} {z : Nat} (E : zEnv tys) : zKnW l D vwCl tys o z (zXX o z) zTs zprog2 zyx22d :=
  zkn_ml E (fun g => fun _ h => absurd h List.not_mem_nil) (show zget zprog2 263 = some mX8_passes from rfl) rfl (by decide) (by decide) (by decide) (by decide) zyx22e
/-! X8_passes -/
noncomputable def zyx23a : List zAV := [zyv320, zyv323]
noncomputable def zyx23q : List (Option zAV × zH) := [(some (.inl ((.ofNat 0, .ofNat 0), none)), zyh216), (some (.inl ((.ofNat 1, .ofNat 1), none)), zyh217)]
noncomputable def zyx23d : zKw := (263, 2, 3, 420, zyx23a, zyh215, zyx23q)
set_option maxRecDepth 100000 in
theorem zyx23e : zrunw zprog2 (zovW []) 100000 zcut0 3 420 kX8_passes (zkinL zyx23q) 0 (zargs 0 zyx23a, [], (zyh215.1, zyh215.2.1, 0), 0, 0) = true := by decide +kernel
theorem zyx23 {l : Launch} {D : va_G} {tys : List (ClassId × FieldType)} {o : zO} {z : Nat} (E : zEnv tys) : zKnW l D vwCl tys o z (zXX o z) zTs zprog2 zyx23d :=
  zkn_ml E (fun g => fun _ h => absurd h List.not_mem_nil) (show zget zprog2 263 = some mX8_passes from rfl) rfl (by decide) (by decide) (by decide) (by decide) zyx23e
/-! X8_passes -/
noncomputable def zyx24a : List zAV := [zyv320, zyv323]
noncomputable def zyx24q : List (Option zAV × zH) := [(some (.inl ((.ofNat 0, .ofNat 0), none)), zyh219), (some (.inl ((.ofNat 1, .ofNat 1), none)), zyh220)]
noncomputable def zyx24d : zKw := (263, 2, 3, 420, zyx24a, zyh218, zyx24q)
set_option maxRecDepth 100000 in
theorem zyx24e : zrunw zprog2 (zovW []) 100000 zcut0 3 420 kX8_passes (zkinL zyx24q) 0 (zargs 0 zyx24a, [], (zyh218.1, zyh218.2.1, 0), 0, 0) = true := by decide +kernel
theorem zyx24 {l : Launch} {D : va_G} {tys : List (ClassId × FieldType)} {o : zO} {z : Nat} (E : zEnv tys) : zKnW l D vwCl tys o z (zXX o z) zTs zprog2 zyx24d :=
  zkn_ml E (fun g => fun _ h => absurd h List.not_mem_nil) (show zget zprog2 263 = some mX8_passes from rfl) rfl (by decide) (by decide) (by decide) (by decide) zyx24e
/-! X8_passes -/
noncomputable def zyx25a : List zAV := [zyv320, zyv323]
noncomputable def zyx25q : List (Option zAV × zH) := [(some (.inl ((.ofNat 0, .ofNat 0), none)), zyh222), (some (.inl ((.ofNat 1, .ofNat 1), none)), zyh223)]
noncomputable def zyx25d : zKw := (263, 2, 3, 420, zyx25a, zyh221, zyx25q)
set_option maxRecDepth 100000 in
theorem zyx25e : zrunw zprog2 (zovW []) 100000 zcut0 3 420 kX8_passes (zkinL zyx25q) 0 (zargs 0 zyx25a, [], (zyh221.1, zyh221.2.1, 0), 0, 0) = true := by decide +kernel
theorem zyx25 {l : Launch} {D : va_G} {tys : List (ClassId × FieldType)} {o : zO} {z : Nat} (E : zEnv tys) : zKnW l D vwCl tys o z (zXX o z) zTs zprog2 zyx25d :=
  zkn_ml E (fun g => fun _ h => absurd h List.not_mem_nil) (show zget zprog2 263 = some mX8_passes from rfl) rfl (by decide) (by decide) (by decide) (by decide) zyx25e
/-! X8_passes -/
noncomputable def zyx26a : List zAV := [zyv320, zyv323]
noncomputable def zyx26q : List (Option zAV × zH) := [(some (.inl ((.ofNat 0, .ofNat 0), none)), zyh225), (some (.inl ((.ofNat 1, .ofNat 1), none)), zyh226)]
noncomputable def zyx26d : zKw := (263, 2, 3, 420, zyx26a, zyh224, zyx26q)
set_option maxRecDepth 100000 in
theorem zyx26e : zrunw zprog2 (zovW []) 100000 zcut0 3 420 kX8_passes (zkinL zyx26q) 0 (zargs 0 zyx26a, [], (zyh224.1, zyh224.2.1, 0), 0, 0) = true := by decide +kernel
theorem zyx26 {l : Launch} {D : va_G} {tys : List (ClassId × FieldType)} {o : zO} {z : Nat} (E : zEnv tys) : zKnW l D vwCl tys o z (zXX o z) zTs zprog2 zyx26d :=
  zkn_ml E (fun g => fun _ h => absurd h List.not_mem_nil) (show zget zprog2 263 = some mX8_passes from rfl) rfl (by decide) (by decide) (by decide) (by decide) zyx26e
/-! X8_passes -/
noncomputable def zyx27a : List zAV := [zyv320, zyv323]
noncomputable def zyx27q : List (Option zAV × zH) := [(some (.inl ((.ofNat 0, .ofNat 0), none)), zyh228), (some (.inl ((.ofNat 1, .ofNat 1), none)), zyh229)]
noncomputable def zyx27d : zKw := (263, 2, 3, 420, zyx27a, zyh227, zyx27q)
set_option maxRecDepth 100000 in
theorem zyx27e : zrunw zprog2 (zovW []) 100000 zcut0 3 420 kX8_passes (zkinL zyx27q) 0 (zargs 0 zyx27a, [], (zyh227.1, zyh227.2.1, 0), 0, 0) = true := by decide +kernel
theorem zyx27 {l : Launch} {D : va_G} {tys : List (ClassId × FieldType)} {o : zO} {z : Nat} (E : zEnv tys) : zKnW l D vwCl tys o z (zXX o z) zTs zprog2 zyx27d :=
  zkn_ml E (fun g => fun _ h => absurd h List.not_mem_nil) (show zget zprog2 263 = some mX8_passes from rfl) rfl (by decide) (by decide) (by decide) (by decide) zyx27e
/-! X8_passes -/
noncomputable def zyx28a : List zAV := [zyv320, zyv323]
noncomputable def zyx28q : List (Option zAV × zH) := [(some (.inl ((.ofNat 0, .ofNat 0), none)), zyh231), (some (.inl ((.ofNat 1, .ofNat 1), none)), zyh232)]
noncomputable def zyx28d : zKw := (263, 2, 3, 420, zyx28a, zyh230, zyx28q)
set_option maxRecDepth 100000 in
theorem zyx28e : zrunw zprog2 (zovW []) 100000 zcut0 3 420 kX8_passes (zkinL zyx28q) 0 (zargs 0 zyx28a, [], (zyh230.1, zyh230.2.1, 0), 0, 0) = true := by decide +kernel
theorem zyx28 {l : Launch} {D : va_G} {tys : List (ClassId × FieldType)} {o : zO} {z : Nat} (E : zEnv tys) : zKnW l D vwCl tys o z (zXX o z) zTs zprog2 zyx28d :=
  zkn_ml E (fun g => fun _ h => absurd h List.not_mem_nil) (show zget zprog2 263 = some mX8_passes from rfl) rfl (by decide) (by decide) (by decide) (by decide) zyx28e
/-! X8_passes -/
noncomputable def zyx29a : List zAV := [zyv320, zyv323]
noncomputable def zyx29q : List (Option zAV × zH) := [(some (.inl ((.ofNat 0, .ofNat 0), none)), zyh234), (some (.inl ((.ofNat 1, .ofNat 1), none)), zyh235)]
noncomputable def zyx29d : zKw := (263, 2, 3, 420, zyx29a, zyh233, zyx29q)
set_option maxRecDepth 100000 in
theorem zyx29e : zrunw zprog2 (zovW []) 100000 zcut0 3 420 kX8_passes (zkinL zyx29q) 0 (zargs 0 zyx29a, [], (zyh233.1, zyh233.2.1, 0), 0, 0) = true := by decide +kernel
theorem zyx29 {l : Launch} {D : va_G} {tys : List (ClassId × FieldType)} {o : zO} {z : Nat} (E : zEnv tys) : zKnW l D vwCl tys o z (zXX o z) zTs zprog2 zyx29d :=
  zkn_ml E (fun g => fun _ h => absurd h List.not_mem_nil) (show zget zprog2 263 = some mX8_passes from rfl) rfl (by decide) (by decide) (by decide) (by decide) zyx29e
/-! X8_passes -/
noncomputable def zyx30a : List zAV := [zyv320, zyv323]
noncomputable def zyx30q : List (Option zAV × zH) := [(some (.inl ((.ofNat 0, .ofNat 0), none)), zyh237), (some (.inl ((.ofNat 1, .ofNat 1), none)), zyh238)]
noncomputable def zyx30d : zKw := (263, 2, 3, 420, zyx30a, zyh236, zyx30q)
set_option maxRecDepth 100000 in
theorem zyx30e : zrunw zprog2 (zovW []) 100000 zcut0 3 420 kX8_passes (zkinL zyx30q) 0 (zargs 0 zyx30a, [], (zyh236.1, zyh236.2.1, 0), 0, 0) = true := by decide +kernel
theorem zyx30 {l : Launch} {D : va_G} {tys : List (ClassId × FieldType)} {o : zO} {z : Nat} (E : zEnv tys) : zKnW l D vwCl tys o z (zXX o z) zTs zprog2 zyx30d :=
  zkn_ml E (fun g => fun _ h => absurd h List.not_mem_nil) (show zget zprog2 263 = some mX8_passes from rfl) rfl (by decide) (by decide) (by decide) (by decide) zyx30e
/-! X8_passes -/
noncomputable def zyx31a : List zAV := [zyv320, zyv323]
noncomputable def zyx31q : List (Option zAV × zH) := [(some (.inl ((.ofNat 0, .ofNat 0), none)), zyh240), (some (.inl ((.ofNat 1, .ofNat 1), none)), zyh241)]
noncomputable def zyx31d : zKw := (263, 2, 3, 420, zyx31a, zyh239, zyx31q)
set_option maxRecDepth 100000 in
theorem zyx31e : zrunw zprog2 (zovW []) 100000 zcut0 3 420 kX8_passes (zkinL zyx31q) 0 (zargs 0 zyx31a, [], (zyh239.1, zyh239.2.1, 0), 0, 0) = true := by decide +kernel
theorem zyx31 {l : Launch} {D : va_G} {tys : List (ClassId × FieldType)} {o : zO} {z : Nat} (E : zEnv tys) : zKnW l D vwCl tys o z (zXX o z) zTs zprog2 zyx31d :=
  zkn_ml E (fun g => fun _ h => absurd h List.not_mem_nil) (show zget zprog2 263 = some mX8_passes from rfl) rfl (by decide) (by decide) (by decide) (by decide) zyx31e
/-! X8_passes -/
noncomputable def zyx32a : List zAV := [zyv320, zyv323]
noncomputable def zyx32q : List (Option zAV × zH) := [(some (.inl ((.ofNat 0, .ofNat 0), none)), zyh243), (some (.inl ((.ofNat 1, .ofNat 1), none)), zyh244)]
noncomputable def zyx32d : zKw := (263, 2, 3, 420, zyx32a, zyh242, zyx32q)
set_option maxRecDepth 100000 in
theorem zyx32e : zrunw zprog2 (zovW []) 100000 zcut0 3 420 kX8_passes (zkinL zyx32q) 0 (zargs 0 zyx32a, [], (zyh242.1, zyh242.2.1, 0), 0, 0) = true := by decide +kernel
theorem zyx32 {l : Launch} {D : va_G} {tys : List (ClassId × FieldType)} {o : zO} {z : Nat} (E : zEnv tys) : zKnW l D vwCl tys o z (zXX o z) zTs zprog2 zyx32d :=
  zkn_ml E (fun g => fun _ h => absurd h List.not_mem_nil) (show zget zprog2 263 = some mX8_passes from rfl) rfl (by decide) (by decide) (by decide) (by decide) zyx32e
/-! X8_passes -/
noncomputable def zyx33a : List zAV := [zyv320, zyv323]
noncomputable def zyx33q : List (Option zAV × zH) := [(some (.inl ((.ofNat 0, .ofNat 0), none)), zyh246), (some (.inl ((.ofNat 1, .ofNat 1), none)), zyh247)]
noncomputable def zyx33d : zKw := (263, 2, 3, 420, zyx33a, zyh245, zyx33q)
set_option maxRecDepth 100000 in
theorem zyx33e : zrunw zprog2 (zovW []) 100000 zcut0 3 420 kX8_passes (zkinL zyx33q) 0 (zargs 0 zyx33a, [], (zyh245.1, zyh245.2.1, 0), 0, 0) = true := by decide +kernel
theorem zyx33 {l : Launch} {D : va_G} {tys : List (ClassId × FieldType)} {o : zO} {z : Nat} (E : zEnv tys) : zKnW l D vwCl tys o z (zXX o z) zTs zprog2 zyx33d :=
  zkn_ml E (fun g => fun _ h => absurd h List.not_mem_nil) (show zget zprog2 263 = some mX8_passes from rfl) rfl (by decide) (by decide) (by decide) (by decide) zyx33e
/-! X8_passes -/
noncomputable def zyx34a : List zAV := [zyv320, zyv323]
noncomputable def zyx34q : List (Option zAV × zH) := [(some (.inl ((.ofNat 0, .ofNat 0), none)), zyh249), (some (.inl ((.ofNat 1, .ofNat 1), none)), zyh250)]
noncomputable def zyx34d : zKw := (263, 2, 3, 420, zyx34a, zyh248, zyx34q)
set_option maxRecDepth 100000 in
theorem zyx34e : zrunw zprog2 (zovW []) 100000 zcut0 3 420 kX8_passes (zkinL zyx34q) 0 (zargs 0 zyx34a, [], (zyh248.1, zyh248.2.1, 0), 0, 0) = true := by decide +kernel
theorem zyx34 {l : Launch} {D : va_G} {tys : List (ClassId × FieldType)} {o : zO} {z : Nat} (E : zEnv tys) : zKnW l D vwCl tys o z (zXX o z) zTs zprog2 zyx34d :=
  zkn_ml E (fun g => fun _ h => absurd h List.not_mem_nil) (show zget zprog2 263 = some mX8_passes from rfl) rfl (by decide) (by decide) (by decide) (by decide) zyx34e
/-! X8_passes -/
noncomputable def zyx35a : List zAV := [zyv320, zyv323]
noncomputable def zyx35q : List (Option zAV × zH) := [(some (.inl ((.ofNat 0, .ofNat 0), none)), zyh252), (some (.inl ((.ofNat 1, .ofNat 1), none)), zyh253)]
noncomputable def zyx35d : zKw := (263, 2, 3, 420, zyx35a, zyh251, zyx35q)
set_option maxRecDepth 100000 in
theorem zyx35e : zrunw zprog2 (zovW []) 100000 zcut0 3 420 kX8_passes (zkinL zyx35q) 0 (zargs 0 zyx35a, [], (zyh251.1, zyh251.2.1, 0), 0, 0) = true := by decide +kernel
theorem zyx35 {l : Launch} {D : va_G} {tys : List (ClassId × FieldType)} {o : zO} {z : Nat} (E : zEnv tys) : zKnW l D vwCl tys o z (zXX o z) zTs zprog2 zyx35d :=
  zkn_ml E (fun g => fun _ h => absurd h List.not_mem_nil) (show zget zprog2 263 = some mX8_passes from rfl) rfl (by decide) (by decide) (by decide) (by decide) zyx35e
/-! X8_passes -/
noncomputable def zyx36a : List zAV := [zyv320, zyv323]
noncomputable def zyx36q : List (Option zAV × zH) := [(some (.inl ((.ofNat 0, .ofNat 0), none)), zyh255), (some (.inl ((.ofNat 1, .ofNat 1), none)), zyh256)]
noncomputable def zyx36d : zKw := (263, 2, 3, 420, zyx36a, zyh254, zyx36q)
set_option maxRecDepth 100000 in
theorem zyx36e : zrunw zprog2 (zovW []) 100000 zcut0 3 420 kX8_passes (zkinL zyx36q) 0 (zargs 0 zyx36a, [], (zyh254.1, zyh254.2.1, 0), 0, 0) = true := by decide +kernel
theorem zyx36 {l : Launch} {D : va_G} {tys : List (ClassId × FieldType)} {o : zO} {z : Nat} (E : zEnv tys) : zKnW l D vwCl tys o z (zXX o z) zTs zprog2 zyx36d :=
  zkn_ml E (fun g => fun _ h => absurd h List.not_mem_nil) (show zget zprog2 263 = some mX8_passes from rfl) rfl (by decide) (by decide) (by decide) (by decide) zyx36e
/-! X8_passes -/
noncomputable def zyx37a : List zAV := [zyv320, zyv323]
noncomputable def zyx37q : List (Option zAV × zH) := [(some (.inl ((.ofNat 0, .ofNat 0), none)), zyh258), (some (.inl ((.ofNat 1, .ofNat 1), none)), zyh259)]
noncomputable def zyx37d : zKw := (263, 2, 3, 420, zyx37a, zyh257, zyx37q)
set_option maxRecDepth 100000 in
theorem zyx37e : zrunw zprog2 (zovW []) 100000 zcut0 3 420 kX8_passes (zkinL zyx37q) 0 (zargs 0 zyx37a, [], (zyh257.1, zyh257.2.1, 0), 0, 0) = true := by decide +kernel
theorem zyx37 {l : Launch} {D : va_G} {tys : List (ClassId × FieldType)} {o : zO} {z : Nat} (E : zEnv tys) : zKnW l D vwCl tys o z (zXX o z) zTs zprog2 zyx37d :=
  zkn_ml E (fun g => fun _ h => absurd h List.not_mem_nil) (show zget zprog2 263 = some mX8_passes from rfl) rfl (by decide) (by decide) (by decide) (by decide) zyx37e
/-! X8_passes -/
noncomputable def zyx38a : List zAV := [zyv320, zyv323]
noncomputable def zyx38q : List (Option zAV × zH) := [(some (.inl ((.ofNat 0, .ofNat 0), none)), zyh261), (some (.inl ((.ofNat 1, .ofNat 1), none)), zyh262)]
noncomputable def zyx38d : zKw := (263, 2, 3, 420, zyx38a, zyh260, zyx38q)
set_option maxRecDepth 100000 in
theorem zyx38e : zrunw zprog2 (zovW []) 100000 zcut0 3 420 kX8_passes (zkinL zyx38q) 0 (zargs 0 zyx38a, [], (zyh260.1, zyh260.2.1, 0), 0, 0) = true := by decide +kernel
theorem zyx38 {l : Launch} {D : va_G} {tys : List (ClassId × FieldType)} {o : zO} {z : Nat} (E : zEnv tys) : zKnW l D vwCl tys o z (zXX o z) zTs zprog2 zyx38d :=
  zkn_ml E (fun g => fun _ h => absurd h List.not_mem_nil) (show zget zprog2 263 = some mX8_passes from rfl) rfl (by decide) (by decide) (by decide) (by decide) zyx38e
/-! X8_passes -/
noncomputable def zyx39a : List zAV := [zyv320, zyv323]
noncomputable def zyx39q : List (Option zAV × zH) := [(some (.inl ((.ofNat 0, .ofNat 0), none)), zyh264), (some (.inl ((.ofNat 1, .ofNat 1), none)), zyh265)]
noncomputable def zyx39d : zKw := (263, 2, 3, 420, zyx39a, zyh263, zyx39q)
set_option maxRecDepth 100000 in
theorem zyx39e : zrunw zprog2 (zovW []) 100000 zcut0 3 420 kX8_passes (zkinL zyx39q) 0 (zargs 0 zyx39a, [], (zyh263.1, zyh263.2.1, 0), 0, 0) = true := by decide +kernel
theorem zyx39 {l : Launch} {D : va_G} {tys : List (ClassId × FieldType)} {o : zO} {z : Nat} (E : zEnv tys) : zKnW l D vwCl tys o z (zXX o z) zTs zprog2 zyx39d :=
  zkn_ml E (fun g => fun _ h => absurd h List.not_mem_nil) (show zget zprog2 263 = some mX8_passes from rfl) rfl (by decide) (by decide) (by decide) (by decide) zyx39e
/-! X8_passes -/
noncomputable def zyx40a : List zAV := [zyv320, zyv323]
noncomputable def zyx40q : List (Option zAV × zH) := [(some (.inl ((.ofNat 0, .ofNat 0), none)), zyh267), (some (.inl ((.ofNat 1, .ofNat 1), none)), zyh268)]
noncomputable def zyx40d : zKw := (263, 2, 3, 420, zyx40a, zyh266, zyx40q)
set_option maxRecDepth 100000 in
theorem zyx40e : zrunw zprog2 (zovW []) 100000 zcut0 3 420 kX8_passes (zkinL zyx40q) 0 (zargs 0 zyx40a, [], (zyh266.1, zyh266.2.1, 0), 0, 0) = true := by decide +kernel
theorem zyx40 {l : Launch} {D : va_G} {tys : List (ClassId × FieldType)} {o : zO} {z : Nat} (E : zEnv tys) : zKnW l D vwCl tys o z (zXX o z) zTs zprog2 zyx40d :=
  zkn_ml E (fun g => fun _ h => absurd h List.not_mem_nil) (show zget zprog2 263 = some mX8_passes from rfl) rfl (by decide) (by decide) (by decide) (by decide) zyx40e
/-! X8_passes -/
noncomputable def zyx41a : List zAV := [zyv320, zyv323]
noncomputable def zyx41q : List (Option zAV × zH) := [(some (.inl ((.ofNat 0, .ofNat 0), none)), zyh270), (some (.inl ((.ofNat 1, .ofNat 1), none)), zyh271)]
noncomputable def zyx41d : zKw := (263, 2, 3, 420, zyx41a, zyh269, zyx41q)
set_option maxRecDepth 100000 in
theorem zyx41e : zrunw zprog2 (zovW []) 100000 zcut0 3 420 kX8_passes (zkinL zyx41q) 0 (zargs 0 zyx41a, [], (zyh269.1, zyh269.2.1, 0), 0, 0) = true := by decide +kernel
theorem zyx41 {l : Launch} {D : va_G} {tys : List (ClassId × FieldType)} {o : zO} {z : Nat} (E : zEnv tys) : zKnW l D vwCl tys o z (zXX o z) zTs zprog2 zyx41d :=
  zkn_ml E (fun g => fun _ h => absurd h List.not_mem_nil) (show zget zprog2 263 = some mX8_passes from rfl) rfl (by decide) (by decide) (by decide) (by decide) zyx41e
/-! X8_passes -/
noncomputable def zyx42a : List zAV := [zyv320, zyv323]
noncomputable def zyx42q : List (Option zAV × zH) := [(some (.inl ((.ofNat 0, .ofNat 0), none)), zyh273), (some (.inl ((.ofNat 1, .ofNat 1), none)), zyh274)]
noncomputable def zyx42d : zKw := (263, 2, 3, 420, zyx42a, zyh272, zyx42q)
set_option maxRecDepth 100000 in
theorem zyx42e : zrunw zprog2 (zovW []) 100000 zcut0 3 420 kX8_passes (zkinL zyx42q) 0 (zargs 0 zyx42a, [], (zyh272.1, zyh272.2.1, 0), 0, 0) = true := by decide +kernel
theorem zyx42 {l : Launch} {D : va_G} {tys : List (ClassId × FieldType)} {o : zO} {z : Nat} (E : zEnv tys) : zKnW l D vwCl tys o z (zXX o z) zTs zprog2 zyx42d :=
  zkn_ml E (fun g => fun _ h => absurd h List.not_mem_nil) (show zget zprog2 263 = some mX8_passes from rfl) rfl (by decide) (by decide) (by decide) (by decide) zyx42e
/-! X8_passes -/
noncomputable def zyx43a : List zAV := [zyv320, zyv323]
noncomputable def zyx43q : List (Option zAV × zH) := [(some (.inl ((.ofNat 0, .ofNat 0), none)), zyh276), (some (.inl ((.ofNat 1, .ofNat 1), none)), zyh277)]
noncomputable def zyx43d : zKw := (263, 2, 3, 420, zyx43a, zyh275, zyx43q)
set_option maxRecDepth 100000 in
theorem zyx43e : zrunw zprog2 (zovW []) 100000 zcut0 3 420 kX8_passes (zkinL zyx43q) 0 (zargs 0 zyx43a, [], (zyh275.1, zyh275.2.1, 0), 0, 0) = true := by decide +kernel
theorem zyx43 {l : Launch} {D : va_G} {tys : List (ClassId × FieldType)} {o : zO} {z : Nat} (E : zEnv tys) : zKnW l D vwCl tys o z (zXX o z) zTs zprog2 zyx43d :=
  zkn_ml E (fun g => fun _ h => absurd h List.not_mem_nil) (show zget zprog2 263 = some mX8_passes from rfl) rfl (by decide) (by decide) (by decide) (by decide) zyx43e
/-! X8_passes -/
noncomputable def zyx44a : List zAV := [zyv320, zyv323]
noncomputable def zyx44q : List (Option zAV × zH) := [(some (.inl ((.ofNat 0, .ofNat 0), none)), zyh279), (some (.inl ((.ofNat 1, .ofNat 1), none)), zyh280)]
noncomputable def zyx44d : zKw := (263, 2, 3, 420, zyx44a, zyh278, zyx44q)
set_option maxRecDepth 100000 in
theorem zyx44e : zrunw zprog2 (zovW []) 100000 zcut0 3 420 kX8_passes (zkinL zyx44q) 0 (zargs 0 zyx44a, [], (zyh278.1, zyh278.2.1, 0), 0, 0) = true := by decide +kernel
theorem zyx44 {l : Launch} {D : va_G} {tys : List (ClassId × FieldType)} {o : zO} {z : Nat} (E : zEnv tys) : zKnW l D vwCl tys o z (zXX o z) zTs zprog2 zyx44d :=
  zkn_ml E (fun g => fun _ h => absurd h List.not_mem_nil) (show zget zprog2 263 = some mX8_passes from rfl) rfl (by decide) (by decide) (by decide) (by decide) zyx44e
/-! X8_passes -/
noncomputable def zyx45a : List zAV := [zyv320, zyv323]
noncomputable def zyx45q : List (Option zAV × zH) := [(some (.inl ((.ofNat 0, .ofNat 0), none)), zyh282), (some (.inl ((.ofNat 1, .ofNat 1), none)), zyh283)]
noncomputable def zyx45d : zKw := (263, 2, 3, 420, zyx45a, zyh281, zyx45q)
set_option maxRecDepth 100000 in
theorem zyx45e : zrunw zprog2 (zovW []) 100000 zcut0 3 420 kX8_passes (zkinL zyx45q) 0 (zargs 0 zyx45a, [], (zyh281.1, zyh281.2.1, 0), 0, 0) = true := by decide +kernel
theorem zyx45 {l : Launch} {D : va_G} {tys : List (ClassId × FieldType)} {o : zO} {z : Nat} (E : zEnv tys) : zKnW l D vwCl tys o z (zXX o z) zTs zprog2 zyx45d :=
  zkn_ml E (fun g => fun _ h => absurd h List.not_mem_nil) (show zget zprog2 263 = some mX8_passes from rfl) rfl (by decide) (by decide) (by decide) (by decide) zyx45e
/-! X8_passes -/
noncomputable def zyx46a : List zAV := [zyv320, zyv323]
noncomputable def zyx46q : List (Option zAV × zH) := [(some (.inl ((.ofNat 0, .ofNat 0), none)), zyh285), (some (.inl ((.ofNat 1, .ofNat 1), none)), zyh286)]
noncomputable def zyx46d : zKw := (263, 2, 3, 420, zyx46a, zyh284, zyx46q)
set_option maxRecDepth 100000 in
theorem zyx46e : zrunw zprog2 (zovW []) 100000 zcut0 3 420 kX8_passes (zkinL zyx46q) 0 (zargs 0 zyx46a, [], (zyh284.1, zyh284.2.1, 0), 0, 0) = true := by decide +kernel
theorem zyx46 {l : Launch} {D : va_G} {tys : List (ClassId × FieldType)} {o : zO} {z : Nat} (E : zEnv tys) : zKnW l D vwCl tys o z (zXX o z) zTs zprog2 zyx46d :=
  zkn_ml E (fun g => fun _ h => absurd h List.not_mem_nil) (show zget zprog2 263 = some mX8_passes from rfl) rfl (by decide) (by decide) (by decide) (by decide) zyx46e
/-! X8_passes -/
noncomputable def zyx47a : List zAV := [zyv320, zyv323]
noncomputable def zyx47q : List (Option zAV × zH) := [(some (.inl ((.ofNat 0, .ofNat 0), none)), zyh288), (some (.inl ((.ofNat 1, .ofNat 1), none)), zyh289)]
noncomputable def zyx47d : zKw := (263, 2, 3, 420, zyx47a, zyh287, zyx47q)
set_option maxRecDepth 100000 in
theorem zyx47e : zrunw zprog2 (zovW []) 100000 zcut0 3 420 kX8_passes (zkinL zyx47q) 0 (zargs 0 zyx47a, [], (zyh287.1, zyh287.2.1, 0), 0, 0) = true := by decide +kernel
theorem zyx47 {l : Launch} {D : va_G} {tys : List (ClassId × FieldType)} {o : zO} {z : Nat} (E : zEnv tys) : zKnW l D vwCl tys o z (zXX o z) zTs zprog2 zyx47d :=
  zkn_ml E (fun g => fun _ h => absurd h List.not_mem_nil) (show zget zprog2 263 = some mX8_passes from rfl) rfl (by decide) (by decide) (by decide) (by decide) zyx47e
/-! X8_passes -/
noncomputable def zyx48a : List zAV := [zyv320, zyv323]
noncomputable def zyx48q : List (Option zAV × zH) := [(some (.inl ((.ofNat 0, .ofNat 0), none)), zyh290)]
noncomputable def zyx48d : zKw := (263, 2, 3, 420, zyx48a, zyh290, zyx48q)
set_option maxRecDepth 100000 in
theorem zyx48e : zrunw zprog2 (zovW []) 100000 zcut0 3 420 kX8_passes (zkinL zyx48q) 0 (zargs 0 zyx48a, [], (zyh290.1, zyh290.2.1, 0), 0, 0) = true := by decide +kernel
theorem zyx48 {l : Launch} {D : va_G} {tys : List (ClassId × FieldType)} {o : zO} {z : Nat} (E : zEnv tys) : zKnW l D vwCl tys o z (zXX o z) zTs zprog2 zyx48d :=
  zkn_ml E (fun g => fun _ h => absurd h List.not_mem_nil) (show zget zprog2 263 = some mX8_passes from rfl) rfl (by decide) (by decide) (by decide) (by decide) zyx48e
/-! X8_thing -/
noncomputable def zyx49a : List zAV := [.inr (.inr (.inl 94)), .inl ((.ofNat 0, .ofNat 4), none)]
def zyx49r : Option zAV := some (.inl ((.negSucc 2147483647, .ofNat 2147483647), none))
noncomputable def zyx49p : List zPw := []
noncomputable def zyx49d : zKw := (292, 4, 4, 540, zyx49a, zyh290, [(zyx49r, zyh291)])
set_option maxRecDepth 100000 in
theorem zyx49e : zrunw zprog2 (zovW [zyx48d]) 100000 (zcutW [] none ((zyx49r, zyh291), 4, 540) zyx49p) 4 540 k2X8_thing (zkin zyx49r zyh291) 0 (zargs 0 zyx49a, [], (zyh290.1, zyh290.2.1, 0), 0, 0) = true := by decide +kernel
theorem zyx49 {l : Launch} {D : va_G} {tys : List (ClassId × FieldType)} {o : zO} {z : Nat} (E : zEnv tys) : zKnW l D vwCl tys o z (zXX o z) zTs zprog2 zyx49d :=
  zkn_mk E (fun g => List.forall_mem_cons.mpr ⟨zyx48 (o := zwith o g) E, fun _ h => absurd h List.not_mem_nil⟩) (show zget zprog2 292 = some m2X8_thing from rfl) rfl (by decide) (by decide) (by decide) (by decide) (G := zyx49p) (fun _ h => absurd h List.not_mem_nil) zyx49e
/-! X8_product ((('r', 99), 40, 40),) -/
noncomputable def zyx50a : List zAV := [.inr (.inr (.inl 94)), .inl ((.ofNat 0, .ofNat 4), none)]
def zyx50r : Option zAV := some (.inl ((.negSucc 2147483647, .ofNat 2147483647), none))
noncomputable def zyx50q : zPw := ((6, ([(0, .inr (.inr (.inl 94))), (1, .inl ((.ofNat 0, .ofNat 4), some (1, .ofNat 0))), (2, .inl ((.negSucc 2147483647, .ofNat 2147483647), some (2, .ofNat 0)))], [], zyh291, 0, 0), [], 0), (zyx50r, zyh291), 5, 660)
set_option maxRecDepth 100000 in
theorem zyx50c : zchkX [(94, 15)] zprog2 (zovW [zyx49d]) 100000 k2X8_product [] [zyx50q] [zyx50q] = true := by decide +kernel
theorem zyx50k {l : Launch} {D : va_G} {tys : List (ClassId × FieldType)} {o : zO} {z : Nat} (E : zEnv tys) : zPtOk l D vwCl tys o z (zXX o z) zTs m2X8_product zyx50q := zkn_pt E (fun g => List.forall_mem_cons.mpr ⟨zyx49 (o := zwith o g) E, fun _ h => absurd h List.not_mem_nil⟩) (show zget zprog2 265 = some m2X8_product from rfl) (fun _ h => absurd h List.not_mem_nil) zyx50c _ List.mem_cons_self
noncomputable def zyx50d : zKw := (265, 5, 5, 660, zyx50a, zyh290, [(zyx50r, zyh291)])
set_option maxRecDepth 100000 in
theorem zyx50e : zrunw zprog2 (zovW [zyx49d]) 100000 (zcutW [(94, 15)] none ((zyx50r, zyh291), 5, 660) [zyx50q]) 5 660 k2X8_product (zkin zyx50r zyh291) 0 (zargs 0 zyx50a, [], (zyh290.1, zyh290.2.1, 0), 0, 0) = true := by decide +kernel
theorem zyx50 {l : Launch} {D : va_G} {tys : List (ClassId × FieldType)} {o : zO} {z : Nat} (E : zEnv tys) : zKnW l D vwCl tys o z (zXX o z) zTs zprog2 zyx50d :=
  zkn_mk E (fun g => List.forall_mem_cons.mpr ⟨zyx49 (o := zwith o g) E, fun _ h => absurd h List.not_mem_nil⟩) (show zget zprog2 265 = some m2X8_product from rfl) rfl (by decide) (by decide) (by decide) (by decide) (G := [zyx50q]) (List.forall_mem_cons.mpr ⟨zyx50k E, fun _ h => absurd h List.not_mem_nil⟩) zyx50e
/-! X8_sum ((('r', 99), 40, 40),) -/
noncomputable def zyx51a : List zAV := [.inr (.inr (.inl 94)), .inl ((.ofNat 1, .ofNat 4), none)]
def zyx51r : Option zAV := some (.inl ((.negSucc 2147483647, .ofNat 2147483647), none))
noncomputable def zyx51q : zPw := ((6, ([(0, .inr (.inr (.inl 94))), (1, .inl ((.ofNat 0, .ofNat 4), some (1, .ofNat 0))), (2, .inl ((.negSucc 2147483647, .ofNat 2147483647), some (2, .ofNat 0)))], [], zyh291, 0, 0), [], 0), (zyx51r, zyh291), 6, 780)
set_option maxRecDepth 100000 in
theorem zyx51c : zchkX [(94, 15)] zprog2 (zovW [zyx50d]) 100000 kX8_sum [] [zyx51q] [zyx51q] = true := by decide +kernel
theorem zyx51k {l : Launch} {D : va_G} {tys : List (ClassId × FieldType)} {o : zO} {z : Nat} (E : zEnv tys) : zPtOk l D vwCl tys o z (zXX o z) zTs mX8_sum zyx51q := zkn_pt E (fun g => List.forall_mem_cons.mpr ⟨zyx50 (o := zwith o g) E, fun _ h => absurd h List.not_mem_nil⟩) (show zget zprog2 284 = some mX8_sum from rfl) (fun _ h => absurd h List.not_mem_nil) zyx51c _ List.mem_cons_self
noncomputable def zyx51d : zKw := (284, 5, 6, 780, zyx51a, zyh290, [(zyx51r, zyh291)])
set_option maxRecDepth 100000 in
theorem zyx51e : zrunw zprog2 (zovW [zyx50d]) 100000 (zcutW [(94, 15)] none ((zyx51r, zyh291), 6, 780) [zyx51q]) 6 780 kX8_sum (zkin zyx51r zyh291) 0 (zargs 0 zyx51a, [], (zyh290.1, zyh290.2.1, 0), 0, 0) = true := by decide +kernel
theorem zyx51 {l : Launch} {D : va_G} {tys : List (ClassId × FieldType)} {o : zO} {z : Nat} (E : zEnv tys) : zKnW l D vwCl tys o z (zXX o z) zTs zprog2 zyx51d :=
  zkn_mk E (fun g => List.forall_mem_cons.mpr ⟨zyx50 (o := zwith o g) E, fun _ h => absurd h List.not_mem_nil⟩) (show zget zprog2 284 = some mX8_sum from rfl) rfl (by decide) (by decide) (by decide) (by decide) (G := [zyx51q]) (List.forall_mem_cons.mpr ⟨zyx51k E, fun _ h => absurd h List.not_mem_nil⟩) zyx51e
/-! X8_heldBy -/
noncomputable def zyx52a : List zAV := [.inr (.inr (.inl 94)), .inl ((.ofNat 1, .ofNat 4), none)]
def zyx52r : Option zAV := some (.inl ((.negSucc 2147483647, .ofNat 2147483647), none))
noncomputable def zyx52p : List zPw := []
noncomputable def zyx52d : zKw := (229, 3, 7, 900, zyx52a, zyh290, [(zyx52r, zyh291)])
set_option maxRecDepth 100000 in
theorem zyx52e : zrunw zprog2 (zovW [zyx51d, zyx48d]) 100000 (zcutW [] none ((zyx52r, zyh291), 7, 900) zyx52p) 7 900 kX8_heldBy (zkin zyx52r zyh291) 0 (zargs 0 zyx52a, [], (zyh290.1, zyh290.2.1, 0), 0, 0) = true := by decide +kernel
theorem zyx52 {l : Launch} {D : va_G} {tys : List (ClassId × FieldType)} {o : zO} {z : Nat} (E : zEnv tys) : zKnW l D vwCl tys o z (zXX o z) zTs zprog2 zyx52d :=
  zkn_mk E (fun g => List.forall_mem_cons.mpr ⟨zyx51 (o := zwith o g) E, List.forall_mem_cons.mpr ⟨zyx48 (o := zwith o g) E, fun _ h => absurd h List.not_mem_nil⟩⟩) (show zget zprog2 229 = some mX8_heldBy from rfl) rfl (by decide) (by decide) (by decide) (by decide) (G := zyx52p) (fun _ h => absurd h List.not_mem_nil) zyx52e
/-! X8_oneOf -/
noncomputable def zyx53a : List zAV := [zyv320, zyv362, zyv363]
noncomputable def zyx53q : List (Option zAV × zH) := [(some (.inl ((.ofNat 0, .ofNat 0), none)), zyh292), (some (.inl ((.negSucc 175, .ofNat 79), none)), zyh293)]
noncomputable def zyx53d : zKw := (260, 3, 4, 480, zyx53a, zyh287, zyx53q)
set_option maxRecDepth 100000 in
theorem zyx53e : zrunw zprog2 (zovW []) 100000 zcut0 4 480 kX8_oneOf (zkinL zyx53q) 0 (zargs 0 zyx53a, [], (zyh287.1, zyh287.2.1, 0), 0, 0) = true := by decide +kernel
theorem zyx53 {l : Launch} {D : va_G} {tys : List (ClassId × FieldType)} {o : zO} {z : Nat} (E : zEnv tys) : zKnW l D vwCl tys o z (zXX o z) zTs zprog2 zyx53d :=
  zkn_ml E (fun g => fun _ h => absurd h List.not_mem_nil) (show zget zprog2 260 = some mX8_oneOf from rfl) rfl (by decide) (by decide) (by decide) (by decide) zyx53e
/-! X8_number -/
noncomputable def zyx54a : List zAV := [.inr (.inr (.inl 94)), .inl ((.ofNat 3, .ofNat 3), none)]
def zyx54r : Option zAV := some (.inl ((.negSucc 2147483647, .ofNat 2147483647), none))
noncomputable def zyx54p : List zPw := [((11, ([(0, .inr (.inr (.inl 94))), (1, .inl ((.ofNat 3, .ofNat 3), some (1, .ofNat 0))), (2, .inl ((.negSucc 2147483647, .ofNat 2147483647), some (2, .ofNat 0))), (3, .inl ((.ofNat 1, .ofNat 3), some (3, .ofNat 0)))], [], zyh294, 0, 0), [(3, .negSucc 1)], .ofNat 7), (zyx54r, zyh294), 5, 600)]
noncomputable def zyx54d : zKw := (259, 4, 5, 600, zyx54a, zyh287, [(zyx54r, zyh294)])
set_option maxRecDepth 100000 in
theorem zyx54c : zchkX [] zprog2 (zovW [zyx53d]) 100000 kX8_number [] zyx54p zyx54p = true := by decide +kernel
set_option maxRecDepth 100000 in
theorem zyx54e : zrunw zprog2 (zovW [zyx53d]) 100000 (zcutW [] none ((zyx54r, zyh294), 5, 600) zyx54p) 5 600 kX8_number (zkin zyx54r zyh294) 0 (zargs 0 zyx54a, [], (zyh287.1, zyh287.2.1, 0), 0, 0) = true := by decide +kernel
theorem zyx54 {l : Launch} {D : va_G} {tys : List (ClassId × FieldType)} {o : zO} {z : Nat} (E : zEnv tys) : zKnW l D vwCl tys o z (zXX o z) zTs zprog2 zyx54d :=
  zkn_mk E (fun g => List.forall_mem_cons.mpr ⟨zyx53 (o := zwith o g) E, fun _ h => absurd h List.not_mem_nil⟩) (show zget zprog2 259 = some mX8_number from rfl) rfl (by decide) (by decide) (by decide) (by decide) (G := zyx54p) (zkn_pt E (fun g => List.forall_mem_cons.mpr ⟨zyx53 (o := zwith o g) E, fun _ h => absurd h List.not_mem_nil⟩) (show zget zprog2 259 = some mX8_number from rfl) (fun _ h => absurd h List.not_mem_nil) zyx54c) zyx54e
/-! X8_thing -/
noncomputable def zyx55a : List zAV := [.inr (.inr (.inl 94)), .inl ((.ofNat 0, .ofNat 4), none)]
def zyx55r : Option zAV := some (.inl ((.negSucc 2147483647, .ofNat 2147483647), none))
noncomputable def zyx55p : List zPw := []
noncomputable def zyx55d : zKw := (292, 4, 8, 1020, zyx55a, zyh287, [(zyx55r, zyh294)])
set_option maxRecDepth 100000 in
theorem zyx55e : zrunw zprog2 (zovW [zyx54d, zyx52d, zyx49d, zyx47d, zyx48d]) 100000 (zcutW [] none ((zyx55r, zyh294), 8, 1020) zyx55p) 8 1020 k2X8_thing (zkin zyx55r zyh294) 0 (zargs 0 zyx55a, [], (zyh287.1, zyh287.2.1, 0), 0, 0) = true := by decide +kernel
theorem zyx55 {l : Launch} {D : va_G} {tys : List (ClassId × FieldType)} {o : zO} {z : Nat} (E : zEnv tys) : zKnW l D vwCl tys o z (zXX o z) zTs zprog2 zyx55d :=
  zkn_mk E (fun g => List.forall_mem_cons.mpr ⟨zyx54 (o := zwith o g) E, List.forall_mem_cons.mpr ⟨zyx52 (o := zwith o g) E, List.forall_mem_cons.mpr ⟨zyx49 (o := zwith o g) E, List.forall_mem_cons.mpr ⟨zyx47 (o := zwith o g) E, List.forall_mem_cons.mpr ⟨zyx48 (o := zwith o g) E, fun _ h => absurd h List.not_mem_nil⟩⟩⟩⟩⟩) (show zget zprog2 292 = some m2X8_thing from rfl) rfl (by decide) (by decide) (by decide) (by decide) (G := zyx55p) (fun _ h => absurd h List.not_mem_nil) zyx55e
/-! X8_product ((('r', 99), 40, 39),) -/
noncomputable def zyx56a : List zAV := [.inr (.inr (.inl 94)), .inl ((.ofNat 0, .ofNat 4), none)]
def zyx56r : Option zAV := some (.inl ((.negSucc 2147483647, .ofNat 2147483647), none))
noncomputable def zyx56q : zPw := ((6, ([(0, .inr (.inr (.inl 94))), (1, .inl ((.ofNat 0, .ofNat 4), some (1, .ofNat 0))), (2, .inl ((.negSucc 2147483647, .ofNat 2147483647), some (2, .ofNat 0)))], [], zyh294, 0, 0), [], 0), (zyx56r, zyh294), 9, 1140)
set_option maxRecDepth 100000 in
theorem zyx56c : zchkX [(94, 15)] zprog2 (zovW [zyx55d, zyx49d]) 100000 k2X8_product [zyx50q] [zyx56q] [zyx56q] = true := by decide +kernel
theorem zyx56k {l : Launch} {D : va_G} {tys : List (ClassId × FieldType)} {o : zO} {z : Nat} (E : zEnv tys) : zPtOk l D vwCl tys o z (zXX o z) zTs m2X8_product zyx56q := zkn_pt E (fun g => List.forall_mem_cons.mpr ⟨zyx55 (o := zwith o g) E, List.forall_mem_cons.mpr ⟨zyx49 (o := zwith o g) E, fun _ h => absurd h List.not_mem_nil⟩⟩) (show zget zprog2 265 = some m2X8_product from rfl) (List.forall_mem_cons.mpr ⟨zyx50k E, fun _ h => absurd h List.not_mem_nil⟩) zyx56c _ List.mem_cons_self
noncomputable def zyx56d : zKw := (265, 5, 9, 1140, zyx56a, zyh287, [(zyx56r, zyh294)])
set_option maxRecDepth 100000 in
theorem zyx56e : zrunw zprog2 (zovW [zyx55d, zyx49d]) 100000 (zcutW [(94, 15)] none ((zyx56r, zyh294), 9, 1140) [zyx56q, zyx50q]) 9 1140 k2X8_product (zkin zyx56r zyh294) 0 (zargs 0 zyx56a, [], (zyh287.1, zyh287.2.1, 0), 0, 0) = true := by decide +kernel
theorem zyx56 {l : Launch} {D : va_G} {tys : List (ClassId × FieldType)} {o : zO} {z : Nat} (E : zEnv tys) : zKnW l D vwCl tys o z (zXX o z) zTs zprog2 zyx56d :=
  zkn_mk E (fun g => List.forall_mem_cons.mpr ⟨zyx55 (o := zwith o g) E, List.forall_mem_cons.mpr ⟨zyx49 (o := zwith o g) E, fun _ h => absurd h List.not_mem_nil⟩⟩) (show zget zprog2 265 = some m2X8_product from rfl) rfl (by decide) (by decide) (by decide) (by decide) (G := [zyx56q, zyx50q]) (List.forall_mem_cons.mpr ⟨zyx56k E, List.forall_mem_cons.mpr ⟨zyx50k E, fun _ h => absurd h List.not_mem_nil⟩⟩) zyx56e
/-! X8_sum ((('r', 99), 40, 39),) -/
noncomputable def zyx57a : List zAV := [.inr (.inr (.inl 94)), .inl ((.ofNat 1, .ofNat 4), none)]
def zyx57r : Option zAV := some (.inl ((.negSucc 2147483647, .ofNat 2147483647), none))
noncomputable def zyx57q : zPw := ((6, ([(0, .inr (.inr (.inl 94))), (1, .inl ((.ofNat 0, .ofNat 4), some (1, .ofNat 0))), (2, .inl ((.negSucc 2147483647, .ofNat 2147483647), some (2, .ofNat 0)))], [], zyh294, 0, 0), [], 0), (zyx57r, zyh294), 10, 1260)
set_option maxRecDepth 100000 in
theorem zyx57c : zchkX [(94, 15)] zprog2 (zovW [zyx56d, zyx50d]) 100000 kX8_sum [zyx51q] [zyx57q] [zyx57q] = true := by decide +kernel
theorem zyx57k {l : Launch} {D : va_G} {tys : List (ClassId × FieldType)} {o : zO} {z : Nat} (E : zEnv tys) : zPtOk l D vwCl tys o z (zXX o z) zTs mX8_sum zyx57q := zkn_pt E (fun g => List.forall_mem_cons.mpr ⟨zyx56 (o := zwith o g) E, List.forall_mem_cons.mpr ⟨zyx50 (o := zwith o g) E, fun _ h => absurd h List.not_mem_nil⟩⟩) (show zget zprog2 284 = some mX8_sum from rfl) (List.forall_mem_cons.mpr ⟨zyx51k E, fun _ h => absurd h List.not_mem_nil⟩) zyx57c _ List.mem_cons_self
noncomputable def zyx57d : zKw := (284, 5, 10, 1260, zyx57a, zyh287, [(zyx57r, zyh294)])
set_option maxRecDepth 100000 in
theorem zyx57e : zrunw zprog2 (zovW [zyx56d, zyx50d]) 100000 (zcutW [(94, 15)] none ((zyx57r, zyh294), 10, 1260) [zyx57q, zyx51q]) 10 1260 kX8_sum (zkin zyx57r zyh294) 0 (zargs 0 zyx57a, [], (zyh287.1, zyh287.2.1, 0), 0, 0) = true := by decide +kernel
theorem zyx57 {l : Launch} {D : va_G} {tys : List (ClassId × FieldType)} {o : zO} {z : Nat} (E : zEnv tys) : zKnW l D vwCl tys o z (zXX o z) zTs zprog2 zyx57d :=
  zkn_mk E (fun g => List.forall_mem_cons.mpr ⟨zyx56 (o := zwith o g) E, List.forall_mem_cons.mpr ⟨zyx50 (o := zwith o g) E, fun _ h => absurd h List.not_mem_nil⟩⟩) (show zget zprog2 284 = some mX8_sum from rfl) rfl (by decide) (by decide) (by decide) (by decide) (G := [zyx57q, zyx51q]) (List.forall_mem_cons.mpr ⟨zyx57k E, List.forall_mem_cons.mpr ⟨zyx51k E, fun _ h => absurd h List.not_mem_nil⟩⟩) zyx57e
/-! X8_heldBy -/
noncomputable def zyx58a : List zAV := [.inr (.inr (.inl 94)), .inl ((.ofNat 1, .ofNat 4), none)]
def zyx58r : Option zAV := some (.inl ((.negSucc 2147483647, .ofNat 2147483647), none))
noncomputable def zyx58p : List zPw := []
noncomputable def zyx58d : zKw := (229, 3, 11, 1380, zyx58a, zyh287, [(zyx58r, zyh294)])
set_option maxRecDepth 100000 in
theorem zyx58e : zrunw zprog2 (zovW [zyx57d, zyx51d, zyx47d]) 100000 (zcutW [] none ((zyx58r, zyh294), 11, 1380) zyx58p) 11 1380 kX8_heldBy (zkin zyx58r zyh294) 0 (zargs 0 zyx58a, [], (zyh287.1, zyh287.2.1, 0), 0, 0) = true := by decide +kernel
theorem zyx58 {l : Launch} {D : va_G} {tys : List (ClassId × FieldType)} {o : zO} {z : Nat} (E : zEnv tys) : zKnW l D vwCl tys o z (zXX o z) zTs zprog2 zyx58d :=
  zkn_mk E (fun g => List.forall_mem_cons.mpr ⟨zyx57 (o := zwith o g) E, List.forall_mem_cons.mpr ⟨zyx51 (o := zwith o g) E, List.forall_mem_cons.mpr ⟨zyx47 (o := zwith o g) E, fun _ h => absurd h List.not_mem_nil⟩⟩⟩) (show zget zprog2 229 = some mX8_heldBy from rfl) rfl (by decide) (by decide) (by decide) (by decide) (G := zyx58p) (fun _ h => absurd h List.not_mem_nil) zyx58e
/-! X8_oneOf -/
noncomputable def zyx59a : List zAV := [zyv320, zyv362, zyv363]
noncomputable def zyx59q : List (Option zAV × zH) := [(some (.inl ((.ofNat 0, .ofNat 0), none)), zyh295), (some (.inl ((.negSucc 175, .ofNat 79), none)), zyh296)]
noncomputable def zyx59d : zKw := (260, 3, 4, 480, zyx59a, zyh284, zyx59q)
set_option maxRecDepth 100000 in
theorem zyx59e : zrunw zprog2 (zovW []) 100000 zcut0 4 480 kX8_oneOf (zkinL zyx59q) 0 (zargs 0 zyx59a, [], (zyh284.1, zyh284.2.1, 0), 0, 0) = true := by decide +kernel
theorem zyx59 {l : Launch} {D : va_G} {tys : List (ClassId × FieldType)} {o : zO} {z : Nat} (E : zEnv tys) : zKnW l D vwCl tys o z (zXX o z) zTs zprog2 zyx59d :=
  zkn_ml E (fun g => fun _ h => absurd h List.not_mem_nil) (show zget zprog2 260 = some mX8_oneOf from rfl) rfl (by decide) (by decide) (by decide) (by decide) zyx59e
/-! X8_number -/
noncomputable def zyx60a : List zAV := [.inr (.inr (.inl 94)), .inl ((.ofNat 3, .ofNat 3), none)]
def zyx60r : Option zAV := some (.inl ((.negSucc 2147483647, .ofNat 2147483647), none))
noncomputable def zyx60p : List zPw := [((11, ([(0, .inr (.inr (.inl 94))), (1, .inl ((.ofNat 3, .ofNat 3), some (1, .ofNat 0))), (2, .inl ((.negSucc 2147483647, .ofNat 2147483647), some (2, .ofNat 0))), (3, .inl ((.ofNat 1, .ofNat 3), some (3, .ofNat 0)))], [], zyh297, 0, 0), [(3, .negSucc 1)], .ofNat 7), (zyx60r, zyh297), 5, 600)]
noncomputable def zyx60d : zKw := (259, 4, 5, 600, zyx60a, zyh284, [(zyx60r, zyh297)])
set_option maxRecDepth 100000 in
theorem zyx60c : zchkX [] zprog2 (zovW [zyx59d]) 100000 kX8_number [] zyx60p zyx60p = true := by decide +kernel
set_option maxRecDepth 100000 in
theorem zyx60e : zrunw zprog2 (zovW [zyx59d]) 100000 (zcutW [] none ((zyx60r, zyh297), 5, 600) zyx60p) 5 600 kX8_number (zkin zyx60r zyh297) 0 (zargs 0 zyx60a, [], (zyh284.1, zyh284.2.1, 0), 0, 0) = true := by decide +kernel
theorem zyx60 {l : Launch} {D : va_G} {tys : List (ClassId × FieldType)} {o : zO} {z : Nat} (E : zEnv tys) : zKnW l D vwCl tys o z (zXX o z) zTs zprog2 zyx60d :=
  zkn_mk E (fun g => List.forall_mem_cons.mpr ⟨zyx59 (o := zwith o g) E, fun _ h => absurd h List.not_mem_nil⟩) (show zget zprog2 259 = some mX8_number from rfl) rfl (by decide) (by decide) (by decide) (by decide) (G := zyx60p) (zkn_pt E (fun g => List.forall_mem_cons.mpr ⟨zyx59 (o := zwith o g) E, fun _ h => absurd h List.not_mem_nil⟩) (show zget zprog2 259 = some mX8_number from rfl) (fun _ h => absurd h List.not_mem_nil) zyx60c) zyx60e
/-! X8_thing -/
noncomputable def zyx61a : List zAV := [.inr (.inr (.inl 94)), .inl ((.ofNat 0, .ofNat 4), none)]
def zyx61r : Option zAV := some (.inl ((.negSucc 2147483647, .ofNat 2147483647), none))
noncomputable def zyx61p : List zPw := []
noncomputable def zyx61d : zKw := (292, 4, 12, 1500, zyx61a, zyh284, [(zyx61r, zyh297)])
set_option maxRecDepth 100000 in
theorem zyx61e : zrunw zprog2 (zovW [zyx60d, zyx58d, zyx55d, zyx46d, zyx47d]) 100000 (zcutW [] none ((zyx61r, zyh297), 12, 1500) zyx61p) 12 1500 k2X8_thing (zkin zyx61r zyh297) 0 (zargs 0 zyx61a, [], (zyh284.1, zyh284.2.1, 0), 0, 0) = true := by decide +kernel
theorem zyx61 {l : Launch} {D : va_G} {tys : List (ClassId × FieldType)} {o : zO} {z : Nat} (E : zEnv tys) : zKnW l D vwCl tys o z (zXX o z) zTs zprog2 zyx61d :=
  zkn_mk E (fun g => List.forall_mem_cons.mpr ⟨zyx60 (o := zwith o g) E, List.forall_mem_cons.mpr ⟨zyx58 (o := zwith o g) E, List.forall_mem_cons.mpr ⟨zyx55 (o := zwith o g) E, List.forall_mem_cons.mpr ⟨zyx46 (o := zwith o g) E, List.forall_mem_cons.mpr ⟨zyx47 (o := zwith o g) E, fun _ h => absurd h List.not_mem_nil⟩⟩⟩⟩⟩) (show zget zprog2 292 = some m2X8_thing from rfl) rfl (by decide) (by decide) (by decide) (by decide) (G := zyx61p) (fun _ h => absurd h List.not_mem_nil) zyx61e
/-! X8_product ((('r', 99), 40, 38),) -/
noncomputable def zyx62a : List zAV := [.inr (.inr (.inl 94)), .inl ((.ofNat 0, .ofNat 4), none)]
def zyx62r : Option zAV := some (.inl ((.negSucc 2147483647, .ofNat 2147483647), none))
noncomputable def zyx62q : zPw := ((6, ([(0, .inr (.inr (.inl 94))), (1, .inl ((.ofNat 0, .ofNat 4), some (1, .ofNat 0))), (2, .inl ((.negSucc 2147483647, .ofNat 2147483647), some (2, .ofNat 0)))], [], zyh297, 0, 0), [], 0), (zyx62r, zyh297), 13, 1620)
set_option maxRecDepth 100000 in
theorem zyx62c : zchkX [(94, 15)] zprog2 (zovW [zyx61d, zyx55d]) 100000 k2X8_product [zyx56q, zyx50q] [zyx62q] [zyx62q] = true := by decide +kernel
theorem zyx62k {l : Launch} {D : va_G} {tys : List (ClassId × FieldType)} {o : zO} {z : Nat} (E : zEnv tys) : zPtOk l D vwCl tys o z (zXX o z) zTs m2X8_product zyx62q := zkn_pt E (fun g => List.forall_mem_cons.mpr ⟨zyx61 (o := zwith o g) E, List.forall_mem_cons.mpr ⟨zyx55 (o := zwith o g) E, fun _ h => absurd h List.not_mem_nil⟩⟩) (show zget zprog2 265 = some m2X8_product from rfl) (List.forall_mem_cons.mpr ⟨zyx56k E, List.forall_mem_cons.mpr ⟨zyx50k E, fun _ h => absurd h List.not_mem_nil⟩⟩) zyx62c _ List.mem_cons_self
noncomputable def zyx62d : zKw := (265, 5, 13, 1620, zyx62a, zyh284, [(zyx62r, zyh297)])
set_option maxRecDepth 100000 in
theorem zyx62e : zrunw zprog2 (zovW [zyx61d, zyx55d]) 100000 (zcutW [(94, 15)] none ((zyx62r, zyh297), 13, 1620) [zyx62q, zyx56q, zyx50q]) 13 1620 k2X8_product (zkin zyx62r zyh297) 0 (zargs 0 zyx62a, [], (zyh284.1, zyh284.2.1, 0), 0, 0) = true := by decide +kernel
theorem zyx62 {l : Launch} {D : va_G} {tys : List (ClassId × FieldType)} {o : zO} {z : Nat} (E : zEnv tys) : zKnW l D vwCl tys o z (zXX o z) zTs zprog2 zyx62d :=
  zkn_mk E (fun g => List.forall_mem_cons.mpr ⟨zyx61 (o := zwith o g) E, List.forall_mem_cons.mpr ⟨zyx55 (o := zwith o g) E, fun _ h => absurd h List.not_mem_nil⟩⟩) (show zget zprog2 265 = some m2X8_product from rfl) rfl (by decide) (by decide) (by decide) (by decide) (G := [zyx62q, zyx56q, zyx50q]) (List.forall_mem_cons.mpr ⟨zyx62k E, List.forall_mem_cons.mpr ⟨zyx56k E, List.forall_mem_cons.mpr ⟨zyx50k E, fun _ h => absurd h List.not_mem_nil⟩⟩⟩) zyx62e
/-! X8_sum ((('r', 99), 40, 38),) -/
noncomputable def zyx63a : List zAV := [.inr (.inr (.inl 94)), .inl ((.ofNat 1, .ofNat 4), none)]
def zyx63r : Option zAV := some (.inl ((.negSucc 2147483647, .ofNat 2147483647), none))
noncomputable def zyx63q : zPw := ((6, ([(0, .inr (.inr (.inl 94))), (1, .inl ((.ofNat 0, .ofNat 4), some (1, .ofNat 0))), (2, .inl ((.negSucc 2147483647, .ofNat 2147483647), some (2, .ofNat 0)))], [], zyh297, 0, 0), [], 0), (zyx63r, zyh297), 14, 1740)
set_option maxRecDepth 100000 in
theorem zyx63c : zchkX [(94, 15)] zprog2 (zovW [zyx62d, zyx56d]) 100000 kX8_sum [zyx57q, zyx51q] [zyx63q] [zyx63q] = true := by decide +kernel
theorem zyx63k {l : Launch} {D : va_G} {tys : List (ClassId × FieldType)} {o : zO} {z : Nat} (E : zEnv tys) : zPtOk l D vwCl tys o z (zXX o z) zTs mX8_sum zyx63q := zkn_pt E (fun g => List.forall_mem_cons.mpr ⟨zyx62 (o := zwith o g) E, List.forall_mem_cons.mpr ⟨zyx56 (o := zwith o g) E, fun _ h => absurd h List.not_mem_nil⟩⟩) (show zget zprog2 284 = some mX8_sum from rfl) (List.forall_mem_cons.mpr ⟨zyx57k E, List.forall_mem_cons.mpr ⟨zyx51k E, fun _ h => absurd h List.not_mem_nil⟩⟩) zyx63c _ List.mem_cons_self
noncomputable def zyx63d : zKw := (284, 5, 14, 1740, zyx63a, zyh284, [(zyx63r, zyh297)])
set_option maxRecDepth 100000 in
theorem zyx63e : zrunw zprog2 (zovW [zyx62d, zyx56d]) 100000 (zcutW [(94, 15)] none ((zyx63r, zyh297), 14, 1740) [zyx63q, zyx57q, zyx51q]) 14 1740 kX8_sum (zkin zyx63r zyh297) 0 (zargs 0 zyx63a, [], (zyh284.1, zyh284.2.1, 0), 0, 0) = true := by decide +kernel
theorem zyx63 {l : Launch} {D : va_G} {tys : List (ClassId × FieldType)} {o : zO} {z : Nat} (E : zEnv tys) : zKnW l D vwCl tys o z (zXX o z) zTs zprog2 zyx63d :=
  zkn_mk E (fun g => List.forall_mem_cons.mpr ⟨zyx62 (o := zwith o g) E, List.forall_mem_cons.mpr ⟨zyx56 (o := zwith o g) E, fun _ h => absurd h List.not_mem_nil⟩⟩) (show zget zprog2 284 = some mX8_sum from rfl) rfl (by decide) (by decide) (by decide) (by decide) (G := [zyx63q, zyx57q, zyx51q]) (List.forall_mem_cons.mpr ⟨zyx63k E, List.forall_mem_cons.mpr ⟨zyx57k E, List.forall_mem_cons.mpr ⟨zyx51k E, fun _ h => absurd h List.not_mem_nil⟩⟩⟩) zyx63e
/-! X8_heldBy -/
noncomputable def zyx64a : List zAV := [.inr (.inr (.inl 94)), .inl ((.ofNat 1, .ofNat 4), none)]
def zyx64r : Option zAV := some (.inl ((.negSucc 2147483647, .ofNat 2147483647), none))
noncomputable def zyx64p : List zPw := []
noncomputable def zyx64d : zKw := (229, 3, 15, 1860, zyx64a, zyh284, [(zyx64r, zyh297)])
set_option maxRecDepth 100000 in
theorem zyx64e : zrunw zprog2 (zovW [zyx63d, zyx57d, zyx46d]) 100000 (zcutW [] none ((zyx64r, zyh297), 15, 1860) zyx64p) 15 1860 kX8_heldBy (zkin zyx64r zyh297) 0 (zargs 0 zyx64a, [], (zyh284.1, zyh284.2.1, 0), 0, 0) = true := by decide +kernel
theorem zyx64 {l : Launch} {D : va_G} {tys : List (ClassId × FieldType)} {o : zO} {z : Nat} (E : zEnv tys) : zKnW l D vwCl tys o z (zXX o z) zTs zprog2 zyx64d :=
  zkn_mk E (fun g => List.forall_mem_cons.mpr ⟨zyx63 (o := zwith o g) E, List.forall_mem_cons.mpr ⟨zyx57 (o := zwith o g) E, List.forall_mem_cons.mpr ⟨zyx46 (o := zwith o g) E, fun _ h => absurd h List.not_mem_nil⟩⟩⟩) (show zget zprog2 229 = some mX8_heldBy from rfl) rfl (by decide) (by decide) (by decide) (by decide) (G := zyx64p) (fun _ h => absurd h List.not_mem_nil) zyx64e
/-! X8_oneOf -/
noncomputable def zyx65a : List zAV := [zyv320, zyv362, zyv363]
noncomputable def zyx65q : List (Option zAV × zH) := [(some (.inl ((.ofNat 0, .ofNat 0), none)), zyh298), (some (.inl ((.negSucc 175, .ofNat 79), none)), zyh299)]
noncomputable def zyx65d : zKw := (260, 3, 4, 480, zyx65a, zyh281, zyx65q)
set_option maxRecDepth 100000 in
theorem zyx65e : zrunw zprog2 (zovW []) 100000 zcut0 4 480 kX8_oneOf (zkinL zyx65q) 0 (zargs 0 zyx65a, [], (zyh281.1, zyh281.2.1, 0), 0, 0) = true := by decide +kernel
theorem zyx65 {l : Launch} {D : va_G} {tys : List (ClassId × FieldType)} {o : zO} {z : Nat} (E : zEnv tys) : zKnW l D vwCl tys o z (zXX o z) zTs zprog2 zyx65d :=
  zkn_ml E (fun g => fun _ h => absurd h List.not_mem_nil) (show zget zprog2 260 = some mX8_oneOf from rfl) rfl (by decide) (by decide) (by decide) (by decide) zyx65e
/-! X8_number -/
noncomputable def zyx66a : List zAV := [.inr (.inr (.inl 94)), .inl ((.ofNat 3, .ofNat 3), none)]
def zyx66r : Option zAV := some (.inl ((.negSucc 2147483647, .ofNat 2147483647), none))
noncomputable def zyx66p : List zPw := [((11, ([(0, .inr (.inr (.inl 94))), (1, .inl ((.ofNat 3, .ofNat 3), some (1, .ofNat 0))), (2, .inl ((.negSucc 2147483647, .ofNat 2147483647), some (2, .ofNat 0))), (3, .inl ((.ofNat 1, .ofNat 3), some (3, .ofNat 0)))], [], zyh300, 0, 0), [(3, .negSucc 1)], .ofNat 7), (zyx66r, zyh300), 5, 600)]
noncomputable def zyx66d : zKw := (259, 4, 5, 600, zyx66a, zyh281, [(zyx66r, zyh300)])
set_option maxRecDepth 100000 in
theorem zyx66c : zchkX [] zprog2 (zovW [zyx65d]) 100000 kX8_number [] zyx66p zyx66p = true := by decide +kernel
set_option maxRecDepth 100000 in
theorem zyx66e : zrunw zprog2 (zovW [zyx65d]) 100000 (zcutW [] none ((zyx66r, zyh300), 5, 600) zyx66p) 5 600 kX8_number (zkin zyx66r zyh300) 0 (zargs 0 zyx66a, [], (zyh281.1, zyh281.2.1, 0), 0, 0) = true := by decide +kernel
theorem zyx66 {l : Launch} {D : va_G} {tys : List (ClassId × FieldType)} {o : zO} {z : Nat} (E : zEnv tys) : zKnW l D vwCl tys o z (zXX o z) zTs zprog2 zyx66d :=
  zkn_mk E (fun g => List.forall_mem_cons.mpr ⟨zyx65 (o := zwith o g) E, fun _ h => absurd h List.not_mem_nil⟩) (show zget zprog2 259 = some mX8_number from rfl) rfl (by decide) (by decide) (by decide) (by decide) (G := zyx66p) (zkn_pt E (fun g => List.forall_mem_cons.mpr ⟨zyx65 (o := zwith o g) E, fun _ h => absurd h List.not_mem_nil⟩) (show zget zprog2 259 = some mX8_number from rfl) (fun _ h => absurd h List.not_mem_nil) zyx66c) zyx66e
/-! X8_thing -/
noncomputable def zyx67a : List zAV := [.inr (.inr (.inl 94)), .inl ((.ofNat 0, .ofNat 4), none)]
def zyx67r : Option zAV := some (.inl ((.negSucc 2147483647, .ofNat 2147483647), none))
noncomputable def zyx67p : List zPw := []
noncomputable def zyx67d : zKw := (292, 4, 16, 1980, zyx67a, zyh281, [(zyx67r, zyh300)])
set_option maxRecDepth 100000 in
theorem zyx67e : zrunw zprog2 (zovW [zyx66d, zyx64d, zyx61d, zyx45d, zyx46d]) 100000 (zcutW [] none ((zyx67r, zyh300), 16, 1980) zyx67p) 16 1980 k2X8_thing (zkin zyx67r zyh300) 0 (zargs 0 zyx67a, [], (zyh281.1, zyh281.2.1, 0), 0, 0) = true := by decide +kernel
theorem zyx67 {l : Launch} {D : va_G} {tys : List (ClassId × FieldType)} {o : zO} {z : Nat} (E : zEnv tys) : zKnW l D vwCl tys o z (zXX o z) zTs zprog2 zyx67d :=
  zkn_mk E (fun g => List.forall_mem_cons.mpr ⟨zyx66 (o := zwith o g) E, List.forall_mem_cons.mpr ⟨zyx64 (o := zwith o g) E, List.forall_mem_cons.mpr ⟨zyx61 (o := zwith o g) E, List.forall_mem_cons.mpr ⟨zyx45 (o := zwith o g) E, List.forall_mem_cons.mpr ⟨zyx46 (o := zwith o g) E, fun _ h => absurd h List.not_mem_nil⟩⟩⟩⟩⟩) (show zget zprog2 292 = some m2X8_thing from rfl) rfl (by decide) (by decide) (by decide) (by decide) (G := zyx67p) (fun _ h => absurd h List.not_mem_nil) zyx67e
/-! X8_product ((('r', 99), 40, 37),) -/
noncomputable def zyx68a : List zAV := [.inr (.inr (.inl 94)), .inl ((.ofNat 0, .ofNat 4), none)]
def zyx68r : Option zAV := some (.inl ((.negSucc 2147483647, .ofNat 2147483647), none))
noncomputable def zyx68q : zPw := ((6, ([(0, .inr (.inr (.inl 94))), (1, .inl ((.ofNat 0, .ofNat 4), some (1, .ofNat 0))), (2, .inl ((.negSucc 2147483647, .ofNat 2147483647), some (2, .ofNat 0)))], [], zyh300, 0, 0), [], 0), (zyx68r, zyh300), 17, 2100)
set_option maxRecDepth 100000 in
theorem zyx68c : zchkX [(94, 15)] zprog2 (zovW [zyx67d, zyx61d]) 100000 k2X8_product [zyx62q, zyx56q, zyx50q] [zyx68q] [zyx68q] = true := by decide +kernel
theorem zyx68k {l : Launch} {D : va_G} {tys : List (ClassId × FieldType)} {o : zO} {z : Nat} (E : zEnv tys) : zPtOk l D vwCl tys o z (zXX o z) zTs m2X8_product zyx68q := zkn_pt E (fun g => List.forall_mem_cons.mpr ⟨zyx67 (o := zwith o g) E, List.forall_mem_cons.mpr ⟨zyx61 (o := zwith o g) E, fun _ h => absurd h List.not_mem_nil⟩⟩) (show zget zprog2 265 = some m2X8_product from rfl) (List.forall_mem_cons.mpr ⟨zyx62k E, List.forall_mem_cons.mpr ⟨zyx56k E, List.forall_mem_cons.mpr ⟨zyx50k E, fun _ h => absurd h List.not_mem_nil⟩⟩⟩) zyx68c _ List.mem_cons_self
noncomputable def zyx68d : zKw := (265, 5, 17, 2100, zyx68a, zyh281, [(zyx68r, zyh300)])
set_option maxRecDepth 100000 in
theorem zyx68e : zrunw zprog2 (zovW [zyx67d, zyx61d]) 100000 (zcutW [(94, 15)] none ((zyx68r, zyh300), 17, 2100) [zyx68q, zyx62q, zyx56q, zyx50q]) 17 2100 k2X8_product (zkin zyx68r zyh300) 0 (zargs 0 zyx68a, [], (zyh281.1, zyh281.2.1, 0), 0, 0) = true := by decide +kernel
theorem zyx68 {l : Launch} {D : va_G} {tys : List (ClassId × FieldType)} {o : zO} {z : Nat} (E : zEnv tys) : zKnW l D vwCl tys o z (zXX o z) zTs zprog2 zyx68d :=
  zkn_mk E (fun g => List.forall_mem_cons.mpr ⟨zyx67 (o := zwith o g) E, List.forall_mem_cons.mpr ⟨zyx61 (o := zwith o g) E, fun _ h => absurd h List.not_mem_nil⟩⟩) (show zget zprog2 265 = some m2X8_product from rfl) rfl (by decide) (by decide) (by decide) (by decide) (G := [zyx68q, zyx62q, zyx56q, zyx50q]) (List.forall_mem_cons.mpr ⟨zyx68k E, List.forall_mem_cons.mpr ⟨zyx62k E, List.forall_mem_cons.mpr ⟨zyx56k E, List.forall_mem_cons.mpr ⟨zyx50k E, fun _ h => absurd h List.not_mem_nil⟩⟩⟩⟩) zyx68e
/-! X8_sum ((('r', 99), 40, 37),) -/
noncomputable def zyx69a : List zAV := [.inr (.inr (.inl 94)), .inl ((.ofNat 1, .ofNat 4), none)]
def zyx69r : Option zAV := some (.inl ((.negSucc 2147483647, .ofNat 2147483647), none))
noncomputable def zyx69q : zPw := ((6, ([(0, .inr (.inr (.inl 94))), (1, .inl ((.ofNat 0, .ofNat 4), some (1, .ofNat 0))), (2, .inl ((.negSucc 2147483647, .ofNat 2147483647), some (2, .ofNat 0)))], [], zyh300, 0, 0), [], 0), (zyx69r, zyh300), 18, 2220)
set_option maxRecDepth 100000 in
theorem zyx69c : zchkX [(94, 15)] zprog2 (zovW [zyx68d, zyx62d]) 100000 kX8_sum [zyx63q, zyx57q, zyx51q] [zyx69q] [zyx69q] = true := by decide +kernel
theorem zyx69k {l : Launch} {D : va_G} {tys : List (ClassId × FieldType)} {o : zO} {z : Nat} (E : zEnv tys) : zPtOk l D vwCl tys o z (zXX o z) zTs mX8_sum zyx69q := zkn_pt E (fun g => List.forall_mem_cons.mpr ⟨zyx68 (o := zwith o g) E, List.forall_mem_cons.mpr ⟨zyx62 (o := zwith o g) E, fun _ h => absurd h List.not_mem_nil⟩⟩) (show zget zprog2 284 = some mX8_sum from rfl) (List.forall_mem_cons.mpr ⟨zyx63k E, List.forall_mem_cons.mpr ⟨zyx57k E, List.forall_mem_cons.mpr ⟨zyx51k E, fun _ h => absurd h List.not_mem_nil⟩⟩⟩) zyx69c _ List.mem_cons_self
noncomputable def zyx69d : zKw := (284, 5, 18, 2220, zyx69a, zyh281, [(zyx69r, zyh300)])
set_option maxRecDepth 100000 in
theorem zyx69e : zrunw zprog2 (zovW [zyx68d, zyx62d]) 100000 (zcutW [(94, 15)] none ((zyx69r, zyh300), 18, 2220) [zyx69q, zyx63q, zyx57q, zyx51q]) 18 2220 kX8_sum (zkin zyx69r zyh300) 0 (zargs 0 zyx69a, [], (zyh281.1, zyh281.2.1, 0), 0, 0) = true := by decide +kernel
theorem zyx69 {l : Launch} {D : va_G} {tys : List (ClassId × FieldType)} {o : zO} {z : Nat} (E : zEnv tys) : zKnW l D vwCl tys o z (zXX o z) zTs zprog2 zyx69d :=
  zkn_mk E (fun g => List.forall_mem_cons.mpr ⟨zyx68 (o := zwith o g) E, List.forall_mem_cons.mpr ⟨zyx62 (o := zwith o g) E, fun _ h => absurd h List.not_mem_nil⟩⟩) (show zget zprog2 284 = some mX8_sum from rfl) rfl (by decide) (by decide) (by decide) (by decide) (G := [zyx69q, zyx63q, zyx57q, zyx51q]) (List.forall_mem_cons.mpr ⟨zyx69k E, List.forall_mem_cons.mpr ⟨zyx63k E, List.forall_mem_cons.mpr ⟨zyx57k E, List.forall_mem_cons.mpr ⟨zyx51k E, fun _ h => absurd h List.not_mem_nil⟩⟩⟩⟩) zyx69e
/-! X8_heldBy -/
noncomputable def zyx70a : List zAV := [.inr (.inr (.inl 94)), .inl ((.ofNat 1, .ofNat 4), none)]
def zyx70r : Option zAV := some (.inl ((.negSucc 2147483647, .ofNat 2147483647), none))
noncomputable def zyx70p : List zPw := []
noncomputable def zyx70d : zKw := (229, 3, 19, 2340, zyx70a, zyh281, [(zyx70r, zyh300)])
set_option maxRecDepth 100000 in
theorem zyx70e : zrunw zprog2 (zovW [zyx69d, zyx63d, zyx45d]) 100000 (zcutW [] none ((zyx70r, zyh300), 19, 2340) zyx70p) 19 2340 kX8_heldBy (zkin zyx70r zyh300) 0 (zargs 0 zyx70a, [], (zyh281.1, zyh281.2.1, 0), 0, 0) = true := by decide +kernel
theorem zyx70 {l : Launch} {D : va_G} {tys : List (ClassId × FieldType)} {o : zO} {z : Nat} (E : zEnv tys) : zKnW l D vwCl tys o z (zXX o z) zTs zprog2 zyx70d :=
  zkn_mk E (fun g => List.forall_mem_cons.mpr ⟨zyx69 (o := zwith o g) E, List.forall_mem_cons.mpr ⟨zyx63 (o := zwith o g) E, List.forall_mem_cons.mpr ⟨zyx45 (o := zwith o g) E, fun _ h => absurd h List.not_mem_nil⟩⟩⟩) (show zget zprog2 229 = some mX8_heldBy from rfl) rfl (by decide) (by decide) (by decide) (by decide) (G := zyx70p) (fun _ h => absurd h List.not_mem_nil) zyx70e
/-! X8_oneOf -/
noncomputable def zyx71a : List zAV := [zyv320, zyv362, zyv363]
noncomputable def zyx71q : List (Option zAV × zH) := [(some (.inl ((.ofNat 0, .ofNat 0), none)), zyh301), (some (.inl ((.negSucc 175, .ofNat 79), none)), zyh302)]
noncomputable def zyx71d : zKw := (260, 3, 4, 480, zyx71a, zyh278, zyx71q)
set_option maxRecDepth 100000 in
theorem zyx71e : zrunw zprog2 (zovW []) 100000 zcut0 4 480 kX8_oneOf (zkinL zyx71q) 0 (zargs 0 zyx71a, [], (zyh278.1, zyh278.2.1, 0), 0, 0) = true := by decide +kernel
theorem zyx71 {l : Launch} {D : va_G} {tys : List (ClassId × FieldType)} {o : zO} {z : Nat} (E : zEnv tys) : zKnW l D vwCl tys o z (zXX o z) zTs zprog2 zyx71d :=
  zkn_ml E (fun g => fun _ h => absurd h List.not_mem_nil) (show zget zprog2 260 = some mX8_oneOf from rfl) rfl (by decide) (by decide) (by decide) (by decide) zyx71e
/-! X8_number -/
noncomputable def zyx72a : List zAV := [.inr (.inr (.inl 94)), .inl ((.ofNat 3, .ofNat 3), none)]
def zyx72r : Option zAV := some (.inl ((.negSucc 2147483647, .ofNat 2147483647), none))
noncomputable def zyx72p : List zPw := [((11, ([(0, .inr (.inr (.inl 94))), (1, .inl ((.ofNat 3, .ofNat 3), some (1, .ofNat 0))), (2, .inl ((.negSucc 2147483647, .ofNat 2147483647), some (2, .ofNat 0))), (3, .inl ((.ofNat 1, .ofNat 3), some (3, .ofNat 0)))], [], zyh303, 0, 0), [(3, .negSucc 1)], .ofNat 7), (zyx72r, zyh303), 5, 600)]
noncomputable def zyx72d : zKw := (259, 4, 5, 600, zyx72a, zyh278, [(zyx72r, zyh303)])
set_option maxRecDepth 100000 in
theorem zyx72c : zchkX [] zprog2 (zovW [zyx71d]) 100000 kX8_number [] zyx72p zyx72p = true := by decide +kernel
set_option maxRecDepth 100000 in
theorem zyx72e : zrunw zprog2 (zovW [zyx71d]) 100000 (zcutW [] none ((zyx72r, zyh303), 5, 600) zyx72p) 5 600 kX8_number (zkin zyx72r zyh303) 0 (zargs 0 zyx72a, [], (zyh278.1, zyh278.2.1, 0), 0, 0) = true := by decide +kernel
theorem zyx72 {l : Launch} {D : va_G} {tys : List (ClassId × FieldType)} {o : zO} {z : Nat} (E : zEnv tys) : zKnW l D vwCl tys o z (zXX o z) zTs zprog2 zyx72d :=
  zkn_mk E (fun g => List.forall_mem_cons.mpr ⟨zyx71 (o := zwith o g) E, fun _ h => absurd h List.not_mem_nil⟩) (show zget zprog2 259 = some mX8_number from rfl) rfl (by decide) (by decide) (by decide) (by decide) (G := zyx72p) (zkn_pt E (fun g => List.forall_mem_cons.mpr ⟨zyx71 (o := zwith o g) E, fun _ h => absurd h List.not_mem_nil⟩) (show zget zprog2 259 = some mX8_number from rfl) (fun _ h => absurd h List.not_mem_nil) zyx72c) zyx72e
/-! X8_thing -/
noncomputable def zyx73a : List zAV := [.inr (.inr (.inl 94)), .inl ((.ofNat 0, .ofNat 4), none)]
def zyx73r : Option zAV := some (.inl ((.negSucc 2147483647, .ofNat 2147483647), none))
noncomputable def zyx73p : List zPw := []
noncomputable def zyx73d : zKw := (292, 4, 20, 2460, zyx73a, zyh278, [(zyx73r, zyh303)])
set_option maxRecDepth 100000 in
theorem zyx73e : zrunw zprog2 (zovW [zyx72d, zyx70d, zyx67d, zyx44d, zyx45d]) 100000 (zcutW [] none ((zyx73r, zyh303), 20, 2460) zyx73p) 20 2460 k2X8_thing (zkin zyx73r zyh303) 0 (zargs 0 zyx73a, [], (zyh278.1, zyh278.2.1, 0), 0, 0) = true := by decide +kernel
theorem zyx73 {l : Launch} {D : va_G} {tys : List (ClassId × FieldType)} {o : zO} {z : Nat} (E : zEnv tys) : zKnW l D vwCl tys o z (zXX o z) zTs zprog2 zyx73d :=
  zkn_mk E (fun g => List.forall_mem_cons.mpr ⟨zyx72 (o := zwith o g) E, List.forall_mem_cons.mpr ⟨zyx70 (o := zwith o g) E, List.forall_mem_cons.mpr ⟨zyx67 (o := zwith o g) E, List.forall_mem_cons.mpr ⟨zyx44 (o := zwith o g) E, List.forall_mem_cons.mpr ⟨zyx45 (o := zwith o g) E, fun _ h => absurd h List.not_mem_nil⟩⟩⟩⟩⟩) (show zget zprog2 292 = some m2X8_thing from rfl) rfl (by decide) (by decide) (by decide) (by decide) (G := zyx73p) (fun _ h => absurd h List.not_mem_nil) zyx73e
/-! X8_product ((('r', 99), 40, 36),) -/
noncomputable def zyx74a : List zAV := [.inr (.inr (.inl 94)), .inl ((.ofNat 0, .ofNat 4), none)]
def zyx74r : Option zAV := some (.inl ((.negSucc 2147483647, .ofNat 2147483647), none))
noncomputable def zyx74q : zPw := ((6, ([(0, .inr (.inr (.inl 94))), (1, .inl ((.ofNat 0, .ofNat 4), some (1, .ofNat 0))), (2, .inl ((.negSucc 2147483647, .ofNat 2147483647), some (2, .ofNat 0)))], [], zyh303, 0, 0), [], 0), (zyx74r, zyh303), 21, 2580)
set_option maxRecDepth 100000 in
theorem zyx74c : zchkX [(94, 15)] zprog2 (zovW [zyx73d, zyx67d]) 100000 k2X8_product [zyx68q, zyx62q, zyx56q, zyx50q] [zyx74q] [zyx74q] = true := by decide +kernel
theorem zyx74k {l : Launch} {D : va_G} {tys : List (ClassId × FieldType)} {o : zO} {z : Nat} (E : zEnv tys) : zPtOk l D vwCl tys o z (zXX o z) zTs m2X8_product zyx74q := zkn_pt E (fun g => List.forall_mem_cons.mpr ⟨zyx73 (o := zwith o g) E, List.forall_mem_cons.mpr ⟨zyx67 (o := zwith o g) E, fun _ h => absurd h List.not_mem_nil⟩⟩) (show zget zprog2 265 = some m2X8_product from rfl) (List.forall_mem_cons.mpr ⟨zyx68k E, List.forall_mem_cons.mpr ⟨zyx62k E, List.forall_mem_cons.mpr ⟨zyx56k E, List.forall_mem_cons.mpr ⟨zyx50k E, fun _ h => absurd h List.not_mem_nil⟩⟩⟩⟩) zyx74c _ List.mem_cons_self
noncomputable def zyx74d : zKw := (265, 5, 21, 2580, zyx74a, zyh278, [(zyx74r, zyh303)])
set_option maxRecDepth 100000 in
theorem zyx74e : zrunw zprog2 (zovW [zyx73d, zyx67d]) 100000 (zcutW [(94, 15)] none ((zyx74r, zyh303), 21, 2580) [zyx74q, zyx68q, zyx62q, zyx56q, zyx50q]) 21 2580 k2X8_product (zkin zyx74r zyh303) 0 (zargs 0 zyx74a, [], (zyh278.1, zyh278.2.1, 0), 0, 0) = true := by decide +kernel
theorem zyx74 {l : Launch} {D : va_G} {tys : List (ClassId × FieldType)} {o : zO} {z : Nat} (E : zEnv tys) : zKnW l D vwCl tys o z (zXX o z) zTs zprog2 zyx74d :=
  zkn_mk E (fun g => List.forall_mem_cons.mpr ⟨zyx73 (o := zwith o g) E, List.forall_mem_cons.mpr ⟨zyx67 (o := zwith o g) E, fun _ h => absurd h List.not_mem_nil⟩⟩) (show zget zprog2 265 = some m2X8_product from rfl) rfl (by decide) (by decide) (by decide) (by decide) (G := [zyx74q, zyx68q, zyx62q, zyx56q, zyx50q]) (List.forall_mem_cons.mpr ⟨zyx74k E, List.forall_mem_cons.mpr ⟨zyx68k E, List.forall_mem_cons.mpr ⟨zyx62k E, List.forall_mem_cons.mpr ⟨zyx56k E, List.forall_mem_cons.mpr ⟨zyx50k E, fun _ h => absurd h List.not_mem_nil⟩⟩⟩⟩⟩) zyx74e
/-! X8_sum ((('r', 99), 40, 36),) -/
noncomputable def zyx75a : List zAV := [.inr (.inr (.inl 94)), .inl ((.ofNat 1, .ofNat 4), none)]
def zyx75r : Option zAV := some (.inl ((.negSucc 2147483647, .ofNat 2147483647), none))
noncomputable def zyx75q : zPw := ((6, ([(0, .inr (.inr (.inl 94))), (1, .inl ((.ofNat 0, .ofNat 4), some (1, .ofNat 0))), (2, .inl ((.negSucc 2147483647, .ofNat 2147483647), some (2, .ofNat 0)))], [], zyh303, 0, 0), [], 0), (zyx75r, zyh303), 22, 2700)
set_option maxRecDepth 100000 in
theorem zyx75c : zchkX [(94, 15)] zprog2 (zovW [zyx74d, zyx68d]) 100000 kX8_sum [zyx69q, zyx63q, zyx57q, zyx51q] [zyx75q] [zyx75q] = true := by decide +kernel
theorem zyx75k {l : Launch} {D : va_G} {tys : List (ClassId × FieldType)} {o : zO} {z : Nat} (E : zEnv tys) : zPtOk l D vwCl tys o z (zXX o z) zTs mX8_sum zyx75q := zkn_pt E (fun g => List.forall_mem_cons.mpr ⟨zyx74 (o := zwith o g) E, List.forall_mem_cons.mpr ⟨zyx68 (o := zwith o g) E, fun _ h => absurd h List.not_mem_nil⟩⟩) (show zget zprog2 284 = some mX8_sum from rfl) (List.forall_mem_cons.mpr ⟨zyx69k E, List.forall_mem_cons.mpr ⟨zyx63k E, List.forall_mem_cons.mpr ⟨zyx57k E, List.forall_mem_cons.mpr ⟨zyx51k E, fun _ h => absurd h List.not_mem_nil⟩⟩⟩⟩) zyx75c _ List.mem_cons_self
noncomputable def zyx75d : zKw := (284, 5, 22, 2700, zyx75a, zyh278, [(zyx75r, zyh303)])
set_option maxRecDepth 100000 in
theorem zyx75e : zrunw zprog2 (zovW [zyx74d, zyx68d]) 100000 (zcutW [(94, 15)] none ((zyx75r, zyh303), 22, 2700) [zyx75q, zyx69q, zyx63q, zyx57q, zyx51q]) 22 2700 kX8_sum (zkin zyx75r zyh303) 0 (zargs 0 zyx75a, [], (zyh278.1, zyh278.2.1, 0), 0, 0) = true := by decide +kernel
theorem zyx75 {l : Launch} {D : va_G} {tys : List (ClassId × FieldType)} {o : zO} {z : Nat} (E : zEnv tys) : zKnW l D vwCl tys o z (zXX o z) zTs zprog2 zyx75d :=
  zkn_mk E (fun g => List.forall_mem_cons.mpr ⟨zyx74 (o := zwith o g) E, List.forall_mem_cons.mpr ⟨zyx68 (o := zwith o g) E, fun _ h => absurd h List.not_mem_nil⟩⟩) (show zget zprog2 284 = some mX8_sum from rfl) rfl (by decide) (by decide) (by decide) (by decide) (G := [zyx75q, zyx69q, zyx63q, zyx57q, zyx51q]) (List.forall_mem_cons.mpr ⟨zyx75k E, List.forall_mem_cons.mpr ⟨zyx69k E, List.forall_mem_cons.mpr ⟨zyx63k E, List.forall_mem_cons.mpr ⟨zyx57k E, List.forall_mem_cons.mpr ⟨zyx51k E, fun _ h => absurd h List.not_mem_nil⟩⟩⟩⟩⟩) zyx75e
/-! X8_heldBy -/
noncomputable def zyx76a : List zAV := [.inr (.inr (.inl 94)), .inl ((.ofNat 1, .ofNat 4), none)]
def zyx76r : Option zAV := some (.inl ((.negSucc 2147483647, .ofNat 2147483647), none))
noncomputable def zyx76p : List zPw := []
noncomputable def zyx76d : zKw := (229, 3, 23, 2820, zyx76a, zyh278, [(zyx76r, zyh303)])
set_option maxRecDepth 100000 in
theorem zyx76e : zrunw zprog2 (zovW [zyx75d, zyx69d, zyx44d]) 100000 (zcutW [] none ((zyx76r, zyh303), 23, 2820) zyx76p) 23 2820 kX8_heldBy (zkin zyx76r zyh303) 0 (zargs 0 zyx76a, [], (zyh278.1, zyh278.2.1, 0), 0, 0) = true := by decide +kernel
theorem zyx76 {l : Launch} {D : va_G} {tys : List (ClassId × FieldType)} {o : zO} {z : Nat} (E : zEnv tys) : zKnW l D vwCl tys o z (zXX o z) zTs zprog2 zyx76d :=
  zkn_mk E (fun g => List.forall_mem_cons.mpr ⟨zyx75 (o := zwith o g) E, List.forall_mem_cons.mpr ⟨zyx69 (o := zwith o g) E, List.forall_mem_cons.mpr ⟨zyx44 (o := zwith o g) E, fun _ h => absurd h List.not_mem_nil⟩⟩⟩) (show zget zprog2 229 = some mX8_heldBy from rfl) rfl (by decide) (by decide) (by decide) (by decide) (G := zyx76p) (fun _ h => absurd h List.not_mem_nil) zyx76e
/-! X8_oneOf -/
noncomputable def zyx77a : List zAV := [zyv320, zyv362, zyv363]
noncomputable def zyx77q : List (Option zAV × zH) := [(some (.inl ((.ofNat 0, .ofNat 0), none)), zyh304), (some (.inl ((.negSucc 175, .ofNat 79), none)), zyh305)]
noncomputable def zyx77d : zKw := (260, 3, 4, 480, zyx77a, zyh275, zyx77q)
set_option maxRecDepth 100000 in
theorem zyx77e : zrunw zprog2 (zovW []) 100000 zcut0 4 480 kX8_oneOf (zkinL zyx77q) 0 (zargs 0 zyx77a, [], (zyh275.1, zyh275.2.1, 0), 0, 0) = true := by decide +kernel
theorem zyx77 {l : Launch} {D : va_G} {tys : List (ClassId × FieldType)} {o : zO} {z : Nat} (E : zEnv tys) : zKnW l D vwCl tys o z (zXX o z) zTs zprog2 zyx77d :=
  zkn_ml E (fun g => fun _ h => absurd h List.not_mem_nil) (show zget zprog2 260 = some mX8_oneOf from rfl) rfl (by decide) (by decide) (by decide) (by decide) zyx77e
/-! X8_number -/
noncomputable def zyx78a : List zAV := [.inr (.inr (.inl 94)), .inl ((.ofNat 3, .ofNat 3), none)]
def zyx78r : Option zAV := some (.inl ((.negSucc 2147483647, .ofNat 2147483647), none))
noncomputable def zyx78p : List zPw := [((11, ([(0, .inr (.inr (.inl 94))), (1, .inl ((.ofNat 3, .ofNat 3), some (1, .ofNat 0))), (2, .inl ((.negSucc 2147483647, .ofNat 2147483647), some (2, .ofNat 0))), (3, .inl ((.ofNat 1, .ofNat 3), some (3, .ofNat 0)))], [], zyh306, 0, 0), [(3, .negSucc 1)], .ofNat 7), (zyx78r, zyh306), 5, 600)]
noncomputable def zyx78d : zKw := (259, 4, 5, 600, zyx78a, zyh275, [(zyx78r, zyh306)])
set_option maxRecDepth 100000 in
theorem zyx78c : zchkX [] zprog2 (zovW [zyx77d]) 100000 kX8_number [] zyx78p zyx78p = true := by decide +kernel
set_option maxRecDepth 100000 in
theorem zyx78e : zrunw zprog2 (zovW [zyx77d]) 100000 (zcutW [] none ((zyx78r, zyh306), 5, 600) zyx78p) 5 600 kX8_number (zkin zyx78r zyh306) 0 (zargs 0 zyx78a, [], (zyh275.1, zyh275.2.1, 0), 0, 0) = true := by decide +kernel
theorem zyx78 {l : Launch} {D : va_G} {tys : List (ClassId × FieldType)} {o : zO} {z : Nat} (E : zEnv tys) : zKnW l D vwCl tys o z (zXX o z) zTs zprog2 zyx78d :=
  zkn_mk E (fun g => List.forall_mem_cons.mpr ⟨zyx77 (o := zwith o g) E, fun _ h => absurd h List.not_mem_nil⟩) (show zget zprog2 259 = some mX8_number from rfl) rfl (by decide) (by decide) (by decide) (by decide) (G := zyx78p) (zkn_pt E (fun g => List.forall_mem_cons.mpr ⟨zyx77 (o := zwith o g) E, fun _ h => absurd h List.not_mem_nil⟩) (show zget zprog2 259 = some mX8_number from rfl) (fun _ h => absurd h List.not_mem_nil) zyx78c) zyx78e
/-! X8_thing -/
noncomputable def zyx79a : List zAV := [.inr (.inr (.inl 94)), .inl ((.ofNat 0, .ofNat 4), none)]
def zyx79r : Option zAV := some (.inl ((.negSucc 2147483647, .ofNat 2147483647), none))
noncomputable def zyx79p : List zPw := []
noncomputable def zyx79d : zKw := (292, 4, 24, 2940, zyx79a, zyh275, [(zyx79r, zyh306)])
set_option maxRecDepth 100000 in
theorem zyx79e : zrunw zprog2 (zovW [zyx78d, zyx76d, zyx73d, zyx43d, zyx44d]) 100000 (zcutW [] none ((zyx79r, zyh306), 24, 2940) zyx79p) 24 2940 k2X8_thing (zkin zyx79r zyh306) 0 (zargs 0 zyx79a, [], (zyh275.1, zyh275.2.1, 0), 0, 0) = true := by decide +kernel
theorem zyx79 {l : Launch} {D : va_G} {tys : List (ClassId × FieldType)} {o : zO} {z : Nat} (E : zEnv tys) : zKnW l D vwCl tys o z (zXX o z) zTs zprog2 zyx79d :=
  zkn_mk E (fun g => List.forall_mem_cons.mpr ⟨zyx78 (o := zwith o g) E, List.forall_mem_cons.mpr ⟨zyx76 (o := zwith o g) E, List.forall_mem_cons.mpr ⟨zyx73 (o := zwith o g) E, List.forall_mem_cons.mpr ⟨zyx43 (o := zwith o g) E, List.forall_mem_cons.mpr ⟨zyx44 (o := zwith o g) E, fun _ h => absurd h List.not_mem_nil⟩⟩⟩⟩⟩) (show zget zprog2 292 = some m2X8_thing from rfl) rfl (by decide) (by decide) (by decide) (by decide) (G := zyx79p) (fun _ h => absurd h List.not_mem_nil) zyx79e
/-! X8_product ((('r', 99), 40, 35),) -/
noncomputable def zyx80a : List zAV := [.inr (.inr (.inl 94)), .inl ((.ofNat 0, .ofNat 4), none)]
def zyx80r : Option zAV := some (.inl ((.negSucc 2147483647, .ofNat 2147483647), none))
noncomputable def zyx80q : zPw := ((6, ([(0, .inr (.inr (.inl 94))), (1, .inl ((.ofNat 0, .ofNat 4), some (1, .ofNat 0))), (2, .inl ((.negSucc 2147483647, .ofNat 2147483647), some (2, .ofNat 0)))], [], zyh306, 0, 0), [], 0), (zyx80r, zyh306), 25, 3060)
set_option maxRecDepth 100000 in
theorem zyx80c : zchkX [(94, 15)] zprog2 (zovW [zyx79d, zyx73d]) 100000 k2X8_product [zyx74q, zyx68q, zyx62q, zyx56q, zyx50q] [zyx80q] [zyx80q] = true := by decide +kernel
theorem zyx80k {l : Launch} {D : va_G} {tys : List (ClassId × FieldType)} {o : zO} {z : Nat} (E : zEnv tys) : zPtOk l D vwCl tys o z (zXX o z) zTs m2X8_product zyx80q := zkn_pt E (fun g => List.forall_mem_cons.mpr ⟨zyx79 (o := zwith o g) E, List.forall_mem_cons.mpr ⟨zyx73 (o := zwith o g) E, fun _ h => absurd h List.not_mem_nil⟩⟩) (show zget zprog2 265 = some m2X8_product from rfl) (List.forall_mem_cons.mpr ⟨zyx74k E, List.forall_mem_cons.mpr ⟨zyx68k E, List.forall_mem_cons.mpr ⟨zyx62k E, List.forall_mem_cons.mpr ⟨zyx56k E, List.forall_mem_cons.mpr ⟨zyx50k E, fun _ h => absurd h List.not_mem_nil⟩⟩⟩⟩⟩) zyx80c _ List.mem_cons_self
noncomputable def zyx80d : zKw := (265, 5, 25, 3060, zyx80a, zyh275, [(zyx80r, zyh306)])
set_option maxRecDepth 100000 in
theorem zyx80e : zrunw zprog2 (zovW [zyx79d, zyx73d]) 100000 (zcutW [(94, 15)] none ((zyx80r, zyh306), 25, 3060) [zyx80q, zyx74q, zyx68q, zyx62q, zyx56q, zyx50q]) 25 3060 k2X8_product (zkin zyx80r zyh306) 0 (zargs 0 zyx80a, [], (zyh275.1, zyh275.2.1, 0), 0, 0) = true := by decide +kernel
theorem zyx80 {l : Launch} {D : va_G} {tys : List (ClassId × FieldType)} {o : zO} {z : Nat} (E : zEnv tys) : zKnW l D vwCl tys o z (zXX o z) zTs zprog2 zyx80d :=
  zkn_mk E (fun g => List.forall_mem_cons.mpr ⟨zyx79 (o := zwith o g) E, List.forall_mem_cons.mpr ⟨zyx73 (o := zwith o g) E, fun _ h => absurd h List.not_mem_nil⟩⟩) (show zget zprog2 265 = some m2X8_product from rfl) rfl (by decide) (by decide) (by decide) (by decide) (G := [zyx80q, zyx74q, zyx68q, zyx62q, zyx56q, zyx50q]) (List.forall_mem_cons.mpr ⟨zyx80k E, List.forall_mem_cons.mpr ⟨zyx74k E, List.forall_mem_cons.mpr ⟨zyx68k E, List.forall_mem_cons.mpr ⟨zyx62k E, List.forall_mem_cons.mpr ⟨zyx56k E, List.forall_mem_cons.mpr ⟨zyx50k E, fun _ h => absurd h List.not_mem_nil⟩⟩⟩⟩⟩⟩) zyx80e
/-! X8_sum ((('r', 99), 40, 35),) -/
noncomputable def zyx81a : List zAV := [.inr (.inr (.inl 94)), .inl ((.ofNat 1, .ofNat 4), none)]
def zyx81r : Option zAV := some (.inl ((.negSucc 2147483647, .ofNat 2147483647), none))
noncomputable def zyx81q : zPw := ((6, ([(0, .inr (.inr (.inl 94))), (1, .inl ((.ofNat 0, .ofNat 4), some (1, .ofNat 0))), (2, .inl ((.negSucc 2147483647, .ofNat 2147483647), some (2, .ofNat 0)))], [], zyh306, 0, 0), [], 0), (zyx81r, zyh306), 26, 3180)
set_option maxRecDepth 100000 in
theorem zyx81c : zchkX [(94, 15)] zprog2 (zovW [zyx80d, zyx74d]) 100000 kX8_sum [zyx75q, zyx69q, zyx63q, zyx57q, zyx51q] [zyx81q] [zyx81q] = true := by decide +kernel
theorem zyx81k {l : Launch} {D : va_G} {tys : List (ClassId × FieldType)} {o : zO} {z : Nat} (E : zEnv tys) : zPtOk l D vwCl tys o z (zXX o z) zTs mX8_sum zyx81q := zkn_pt E (fun g => List.forall_mem_cons.mpr ⟨zyx80 (o := zwith o g) E, List.forall_mem_cons.mpr ⟨zyx74 (o := zwith o g) E, fun _ h => absurd h List.not_mem_nil⟩⟩) (show zget zprog2 284 = some mX8_sum from rfl) (List.forall_mem_cons.mpr ⟨zyx75k E, List.forall_mem_cons.mpr ⟨zyx69k E, List.forall_mem_cons.mpr ⟨zyx63k E, List.forall_mem_cons.mpr ⟨zyx57k E, List.forall_mem_cons.mpr ⟨zyx51k E, fun _ h => absurd h List.not_mem_nil⟩⟩⟩⟩⟩) zyx81c _ List.mem_cons_self
noncomputable def zyx81d : zKw := (284, 5, 26, 3180, zyx81a, zyh275, [(zyx81r, zyh306)])
set_option maxRecDepth 100000 in
theorem zyx81e : zrunw zprog2 (zovW [zyx80d, zyx74d]) 100000 (zcutW [(94, 15)] none ((zyx81r, zyh306), 26, 3180) [zyx81q, zyx75q, zyx69q, zyx63q, zyx57q, zyx51q]) 26 3180 kX8_sum (zkin zyx81r zyh306) 0 (zargs 0 zyx81a, [], (zyh275.1, zyh275.2.1, 0), 0, 0) = true := by decide +kernel
theorem zyx81 {l : Launch} {D : va_G} {tys : List (ClassId × FieldType)} {o : zO} {z : Nat} (E : zEnv tys) : zKnW l D vwCl tys o z (zXX o z) zTs zprog2 zyx81d :=
  zkn_mk E (fun g => List.forall_mem_cons.mpr ⟨zyx80 (o := zwith o g) E, List.forall_mem_cons.mpr ⟨zyx74 (o := zwith o g) E, fun _ h => absurd h List.not_mem_nil⟩⟩) (show zget zprog2 284 = some mX8_sum from rfl) rfl (by decide) (by decide) (by decide) (by decide) (G := [zyx81q, zyx75q, zyx69q, zyx63q, zyx57q, zyx51q]) (List.forall_mem_cons.mpr ⟨zyx81k E, List.forall_mem_cons.mpr ⟨zyx75k E, List.forall_mem_cons.mpr ⟨zyx69k E, List.forall_mem_cons.mpr ⟨zyx63k E, List.forall_mem_cons.mpr ⟨zyx57k E, List.forall_mem_cons.mpr ⟨zyx51k E, fun _ h => absurd h List.not_mem_nil⟩⟩⟩⟩⟩⟩) zyx81e
/-! X8_heldBy -/
noncomputable def zyx82a : List zAV := [.inr (.inr (.inl 94)), .inl ((.ofNat 1, .ofNat 4), none)]
def zyx82r : Option zAV := some (.inl ((.negSucc 2147483647, .ofNat 2147483647), none))
noncomputable def zyx82p : List zPw := []
noncomputable def zyx82d : zKw := (229, 3, 27, 3300, zyx82a, zyh275, [(zyx82r, zyh306)])
set_option maxRecDepth 100000 in
theorem zyx82e : zrunw zprog2 (zovW [zyx81d, zyx75d, zyx43d]) 100000 (zcutW [] none ((zyx82r, zyh306), 27, 3300) zyx82p) 27 3300 kX8_heldBy (zkin zyx82r zyh306) 0 (zargs 0 zyx82a, [], (zyh275.1, zyh275.2.1, 0), 0, 0) = true := by decide +kernel
theorem zyx82 {l : Launch} {D : va_G} {tys : List (ClassId × FieldType)} {o : zO} {z : Nat} (E : zEnv tys) : zKnW l D vwCl tys o z (zXX o z) zTs zprog2 zyx82d :=
  zkn_mk E (fun g => List.forall_mem_cons.mpr ⟨zyx81 (o := zwith o g) E, List.forall_mem_cons.mpr ⟨zyx75 (o := zwith o g) E, List.forall_mem_cons.mpr ⟨zyx43 (o := zwith o g) E, fun _ h => absurd h List.not_mem_nil⟩⟩⟩) (show zget zprog2 229 = some mX8_heldBy from rfl) rfl (by decide) (by decide) (by decide) (by decide) (G := zyx82p) (fun _ h => absurd h List.not_mem_nil) zyx82e
/-! X8_oneOf -/
noncomputable def zyx83a : List zAV := [zyv320, zyv362, zyv363]
noncomputable def zyx83q : List (Option zAV × zH) := [(some (.inl ((.ofNat 0, .ofNat 0), none)), zyh307), (some (.inl ((.negSucc 175, .ofNat 79), none)), zyh308)]
noncomputable def zyx83d : zKw := (260, 3, 4, 480, zyx83a, zyh272, zyx83q)
set_option maxRecDepth 100000 in
theorem zyx83e : zrunw zprog2 (zovW []) 100000 zcut0 4 480 kX8_oneOf (zkinL zyx83q) 0 (zargs 0 zyx83a, [], (zyh272.1, zyh272.2.1, 0), 0, 0) = true := by decide +kernel
theorem zyx83 {l : Launch} {D : va_G} {tys : List (ClassId × FieldType)} {o : zO} {z : Nat} (E : zEnv tys) : zKnW l D vwCl tys o z (zXX o z) zTs zprog2 zyx83d :=
  zkn_ml E (fun g => fun _ h => absurd h List.not_mem_nil) (show zget zprog2 260 = some mX8_oneOf from rfl) rfl (by decide) (by decide) (by decide) (by decide) zyx83e
/-! X8_number -/
noncomputable def zyx84a : List zAV := [.inr (.inr (.inl 94)), .inl ((.ofNat 3, .ofNat 3), none)]
def zyx84r : Option zAV := some (.inl ((.negSucc 2147483647, .ofNat 2147483647), none))
noncomputable def zyx84p : List zPw := [((11, ([(0, .inr (.inr (.inl 94))), (1, .inl ((.ofNat 3, .ofNat 3), some (1, .ofNat 0))), (2, .inl ((.negSucc 2147483647, .ofNat 2147483647), some (2, .ofNat 0))), (3, .inl ((.ofNat 1, .ofNat 3), some (3, .ofNat 0)))], [], zyh309, 0, 0), [(3, .negSucc 1)], .ofNat 7), (zyx84r, zyh309), 5, 600)]
noncomputable def zyx84d : zKw := (259, 4, 5, 600, zyx84a, zyh272, [(zyx84r, zyh309)])
set_option maxRecDepth 100000 in
theorem zyx84c : zchkX [] zprog2 (zovW [zyx83d]) 100000 kX8_number [] zyx84p zyx84p = true := by decide +kernel
set_option maxRecDepth 100000 in
theorem zyx84e : zrunw zprog2 (zovW [zyx83d]) 100000 (zcutW [] none ((zyx84r, zyh309), 5, 600) zyx84p) 5 600 kX8_number (zkin zyx84r zyh309) 0 (zargs 0 zyx84a, [], (zyh272.1, zyh272.2.1, 0), 0, 0) = true := by decide +kernel
theorem zyx84 {l : Launch} {D : va_G} {tys : List (ClassId × FieldType)} {o : zO} {z : Nat} (E : zEnv tys) : zKnW l D vwCl tys o z (zXX o z) zTs zprog2 zyx84d :=
  zkn_mk E (fun g => List.forall_mem_cons.mpr ⟨zyx83 (o := zwith o g) E, fun _ h => absurd h List.not_mem_nil⟩) (show zget zprog2 259 = some mX8_number from rfl) rfl (by decide) (by decide) (by decide) (by decide) (G := zyx84p) (zkn_pt E (fun g => List.forall_mem_cons.mpr ⟨zyx83 (o := zwith o g) E, fun _ h => absurd h List.not_mem_nil⟩) (show zget zprog2 259 = some mX8_number from rfl) (fun _ h => absurd h List.not_mem_nil) zyx84c) zyx84e
/-! X8_thing -/
noncomputable def zyx85a : List zAV := [.inr (.inr (.inl 94)), .inl ((.ofNat 0, .ofNat 4), none)]
def zyx85r : Option zAV := some (.inl ((.negSucc 2147483647, .ofNat 2147483647), none))
noncomputable def zyx85p : List zPw := []
noncomputable def zyx85d : zKw := (292, 4, 28, 3420, zyx85a, zyh272, [(zyx85r, zyh309)])
set_option maxRecDepth 100000 in
theorem zyx85e : zrunw zprog2 (zovW [zyx84d, zyx82d, zyx79d, zyx42d, zyx43d]) 100000 (zcutW [] none ((zyx85r, zyh309), 28, 3420) zyx85p) 28 3420 k2X8_thing (zkin zyx85r zyh309) 0 (zargs 0 zyx85a, [], (zyh272.1, zyh272.2.1, 0), 0, 0) = true := by decide +kernel
theorem zyx85 {l : Launch} {D : va_G} {tys : List (ClassId × FieldType)} {o : zO} {z : Nat} (E : zEnv tys) : zKnW l D vwCl tys o z (zXX o z) zTs zprog2 zyx85d :=
  zkn_mk E (fun g => List.forall_mem_cons.mpr ⟨zyx84 (o := zwith o g) E, List.forall_mem_cons.mpr ⟨zyx82 (o := zwith o g) E, List.forall_mem_cons.mpr ⟨zyx79 (o := zwith o g) E, List.forall_mem_cons.mpr ⟨zyx42 (o := zwith o g) E, List.forall_mem_cons.mpr ⟨zyx43 (o := zwith o g) E, fun _ h => absurd h List.not_mem_nil⟩⟩⟩⟩⟩) (show zget zprog2 292 = some m2X8_thing from rfl) rfl (by decide) (by decide) (by decide) (by decide) (G := zyx85p) (fun _ h => absurd h List.not_mem_nil) zyx85e
/-! X8_product ((('r', 99), 40, 34),) -/
noncomputable def zyx86a : List zAV := [.inr (.inr (.inl 94)), .inl ((.ofNat 0, .ofNat 4), none)]
def zyx86r : Option zAV := some (.inl ((.negSucc 2147483647, .ofNat 2147483647), none))
noncomputable def zyx86q : zPw := ((6, ([(0, .inr (.inr (.inl 94))), (1, .inl ((.ofNat 0, .ofNat 4), some (1, .ofNat 0))), (2, .inl ((.negSucc 2147483647, .ofNat 2147483647), some (2, .ofNat 0)))], [], zyh309, 0, 0), [], 0), (zyx86r, zyh309), 29, 3540)
set_option maxRecDepth 100000 in
theorem zyx86c : zchkX [(94, 15)] zprog2 (zovW [zyx85d, zyx79d]) 100000 k2X8_product [zyx80q, zyx74q, zyx68q, zyx62q, zyx56q, zyx50q] [zyx86q] [zyx86q] = true := by decide +kernel
theorem zyx86k {l : Launch} {D : va_G} {tys : List (ClassId × FieldType)} {o : zO} {z : Nat} (E : zEnv tys) : zPtOk l D vwCl tys o z (zXX o z) zTs m2X8_product zyx86q := zkn_pt E (fun g => List.forall_mem_cons.mpr ⟨zyx85 (o := zwith o g) E, List.forall_mem_cons.mpr ⟨zyx79 (o := zwith o g) E, fun _ h => absurd h List.not_mem_nil⟩⟩) (show zget zprog2 265 = some m2X8_product from rfl) (List.forall_mem_cons.mpr ⟨zyx80k E, List.forall_mem_cons.mpr ⟨zyx74k E, List.forall_mem_cons.mpr ⟨zyx68k E, List.forall_mem_cons.mpr ⟨zyx62k E, List.forall_mem_cons.mpr ⟨zyx56k E, List.forall_mem_cons.mpr ⟨zyx50k E, fun _ h => absurd h List.not_mem_nil⟩⟩⟩⟩⟩⟩) zyx86c _ List.mem_cons_self
noncomputable def zyx86d : zKw := (265, 5, 29, 3540, zyx86a, zyh272, [(zyx86r, zyh309)])
set_option maxRecDepth 100000 in
theorem zyx86e : zrunw zprog2 (zovW [zyx85d, zyx79d]) 100000 (zcutW [(94, 15)] none ((zyx86r, zyh309), 29, 3540) [zyx86q, zyx80q, zyx74q, zyx68q, zyx62q, zyx56q, zyx50q]) 29 3540 k2X8_product (zkin zyx86r zyh309) 0 (zargs 0 zyx86a, [], (zyh272.1, zyh272.2.1, 0), 0, 0) = true := by decide +kernel
theorem zyx86 {l : Launch} {D : va_G} {tys : List (ClassId × FieldType)} {o : zO} {z : Nat} (E : zEnv tys) : zKnW l D vwCl tys o z (zXX o z) zTs zprog2 zyx86d :=
  zkn_mk E (fun g => List.forall_mem_cons.mpr ⟨zyx85 (o := zwith o g) E, List.forall_mem_cons.mpr ⟨zyx79 (o := zwith o g) E, fun _ h => absurd h List.not_mem_nil⟩⟩) (show zget zprog2 265 = some m2X8_product from rfl) rfl (by decide) (by decide) (by decide) (by decide) (G := [zyx86q, zyx80q, zyx74q, zyx68q, zyx62q, zyx56q, zyx50q]) (List.forall_mem_cons.mpr ⟨zyx86k E, List.forall_mem_cons.mpr ⟨zyx80k E, List.forall_mem_cons.mpr ⟨zyx74k E, List.forall_mem_cons.mpr ⟨zyx68k E, List.forall_mem_cons.mpr ⟨zyx62k E, List.forall_mem_cons.mpr ⟨zyx56k E, List.forall_mem_cons.mpr ⟨zyx50k E, fun _ h => absurd h List.not_mem_nil⟩⟩⟩⟩⟩⟩⟩) zyx86e
/-! X8_sum ((('r', 99), 40, 34),) -/
noncomputable def zyx87a : List zAV := [.inr (.inr (.inl 94)), .inl ((.ofNat 1, .ofNat 4), none)]
def zyx87r : Option zAV := some (.inl ((.negSucc 2147483647, .ofNat 2147483647), none))
noncomputable def zyx87q : zPw := ((6, ([(0, .inr (.inr (.inl 94))), (1, .inl ((.ofNat 0, .ofNat 4), some (1, .ofNat 0))), (2, .inl ((.negSucc 2147483647, .ofNat 2147483647), some (2, .ofNat 0)))], [], zyh309, 0, 0), [], 0), (zyx87r, zyh309), 30, 3660)
set_option maxRecDepth 100000 in
theorem zyx87c : zchkX [(94, 15)] zprog2 (zovW [zyx86d, zyx80d]) 100000 kX8_sum [zyx81q, zyx75q, zyx69q, zyx63q, zyx57q, zyx51q] [zyx87q] [zyx87q] = true := by decide +kernel
theorem zyx87k {l : Launch} {D : va_G} {tys : List (ClassId × FieldType)} {o : zO} {z : Nat} (E : zEnv tys) : zPtOk l D vwCl tys o z (zXX o z) zTs mX8_sum zyx87q := zkn_pt E (fun g => List.forall_mem_cons.mpr ⟨zyx86 (o := zwith o g) E, List.forall_mem_cons.mpr ⟨zyx80 (o := zwith o g) E, fun _ h => absurd h List.not_mem_nil⟩⟩) (show zget zprog2 284 = some mX8_sum from rfl) (List.forall_mem_cons.mpr ⟨zyx81k E, List.forall_mem_cons.mpr ⟨zyx75k E, List.forall_mem_cons.mpr ⟨zyx69k E, List.forall_mem_cons.mpr ⟨zyx63k E, List.forall_mem_cons.mpr ⟨zyx57k E, List.forall_mem_cons.mpr ⟨zyx51k E, fun _ h => absurd h List.not_mem_nil⟩⟩⟩⟩⟩⟩) zyx87c _ List.mem_cons_self
noncomputable def zyx87d : zKw := (284, 5, 30, 3660, zyx87a, zyh272, [(zyx87r, zyh309)])
set_option maxRecDepth 100000 in
theorem zyx87e : zrunw zprog2 (zovW [zyx86d, zyx80d]) 100000 (zcutW [(94, 15)] none ((zyx87r, zyh309), 30, 3660) [zyx87q, zyx81q, zyx75q, zyx69q, zyx63q, zyx57q, zyx51q]) 30 3660 kX8_sum (zkin zyx87r zyh309) 0 (zargs 0 zyx87a, [], (zyh272.1, zyh272.2.1, 0), 0, 0) = true := by decide +kernel
theorem zyx87 {l : Launch} {D : va_G} {tys : List (ClassId × FieldType)} {o : zO} {z : Nat} (E : zEnv tys) : zKnW l D vwCl tys o z (zXX o z) zTs zprog2 zyx87d :=
  zkn_mk E (fun g => List.forall_mem_cons.mpr ⟨zyx86 (o := zwith o g) E, List.forall_mem_cons.mpr ⟨zyx80 (o := zwith o g) E, fun _ h => absurd h List.not_mem_nil⟩⟩) (show zget zprog2 284 = some mX8_sum from rfl) rfl (by decide) (by decide) (by decide) (by decide) (G := [zyx87q, zyx81q, zyx75q, zyx69q, zyx63q, zyx57q, zyx51q]) (List.forall_mem_cons.mpr ⟨zyx87k E, List.forall_mem_cons.mpr ⟨zyx81k E, List.forall_mem_cons.mpr ⟨zyx75k E, List.forall_mem_cons.mpr ⟨zyx69k E, List.forall_mem_cons.mpr ⟨zyx63k E, List.forall_mem_cons.mpr ⟨zyx57k E, List.forall_mem_cons.mpr ⟨zyx51k E, fun _ h => absurd h List.not_mem_nil⟩⟩⟩⟩⟩⟩⟩) zyx87e
/-! X8_heldBy -/
noncomputable def zyx88a : List zAV := [.inr (.inr (.inl 94)), .inl ((.ofNat 1, .ofNat 4), none)]
def zyx88r : Option zAV := some (.inl ((.negSucc 2147483647, .ofNat 2147483647), none))
noncomputable def zyx88p : List zPw := []
noncomputable def zyx88d : zKw := (229, 3, 31, 3780, zyx88a, zyh272, [(zyx88r, zyh309)])
set_option maxRecDepth 100000 in
theorem zyx88e : zrunw zprog2 (zovW [zyx87d, zyx81d, zyx42d]) 100000 (zcutW [] none ((zyx88r, zyh309), 31, 3780) zyx88p) 31 3780 kX8_heldBy (zkin zyx88r zyh309) 0 (zargs 0 zyx88a, [], (zyh272.1, zyh272.2.1, 0), 0, 0) = true := by decide +kernel
theorem zyx88 {l : Launch} {D : va_G} {tys : List (ClassId × FieldType)} {o : zO} {z : Nat} (E : zEnv tys) : zKnW l D vwCl tys o z (zXX o z) zTs zprog2 zyx88d :=
  zkn_mk E (fun g => List.forall_mem_cons.mpr ⟨zyx87 (o := zwith o g) E, List.forall_mem_cons.mpr ⟨zyx81 (o := zwith o g) E, List.forall_mem_cons.mpr ⟨zyx42 (o := zwith o g) E, fun _ h => absurd h List.not_mem_nil⟩⟩⟩) (show zget zprog2 229 = some mX8_heldBy from rfl) rfl (by decide) (by decide) (by decide) (by decide) (G := zyx88p) (fun _ h => absurd h List.not_mem_nil) zyx88e
/-! X8_oneOf -/
noncomputable def zyx89a : List zAV := [zyv320, zyv362, zyv363]
noncomputable def zyx89q : List (Option zAV × zH) := [(some (.inl ((.ofNat 0, .ofNat 0), none)), zyh310), (some (.inl ((.negSucc 175, .ofNat 79), none)), zyh311)]
noncomputable def zyx89d : zKw := (260, 3, 4, 480, zyx89a, zyh269, zyx89q)
set_option maxRecDepth 100000 in
theorem zyx89e : zrunw zprog2 (zovW []) 100000 zcut0 4 480 kX8_oneOf (zkinL zyx89q) 0 (zargs 0 zyx89a, [], (zyh269.1, zyh269.2.1, 0), 0, 0) = true := by decide +kernel
theorem zyx89 {l : Launch} {D : va_G} {tys : List (ClassId × FieldType)} {o : zO} {z : Nat} (E : zEnv tys) : zKnW l D vwCl tys o z (zXX o z) zTs zprog2 zyx89d :=
  zkn_ml E (fun g => fun _ h => absurd h List.not_mem_nil) (show zget zprog2 260 = some mX8_oneOf from rfl) rfl (by decide) (by decide) (by decide) (by decide) zyx89e
/-! X8_number -/
noncomputable def zyx90a : List zAV := [.inr (.inr (.inl 94)), .inl ((.ofNat 3, .ofNat 3), none)]
def zyx90r : Option zAV := some (.inl ((.negSucc 2147483647, .ofNat 2147483647), none))
noncomputable def zyx90p : List zPw := [((11, ([(0, .inr (.inr (.inl 94))), (1, .inl ((.ofNat 3, .ofNat 3), some (1, .ofNat 0))), (2, .inl ((.negSucc 2147483647, .ofNat 2147483647), some (2, .ofNat 0))), (3, .inl ((.ofNat 1, .ofNat 3), some (3, .ofNat 0)))], [], zyh312, 0, 0), [(3, .negSucc 1)], .ofNat 7), (zyx90r, zyh312), 5, 600)]
noncomputable def zyx90d : zKw := (259, 4, 5, 600, zyx90a, zyh269, [(zyx90r, zyh312)])
set_option maxRecDepth 100000 in
theorem zyx90c : zchkX [] zprog2 (zovW [zyx89d]) 100000 kX8_number [] zyx90p zyx90p = true := by decide +kernel
set_option maxRecDepth 100000 in
theorem zyx90e : zrunw zprog2 (zovW [zyx89d]) 100000 (zcutW [] none ((zyx90r, zyh312), 5, 600) zyx90p) 5 600 kX8_number (zkin zyx90r zyh312) 0 (zargs 0 zyx90a, [], (zyh269.1, zyh269.2.1, 0), 0, 0) = true := by decide +kernel
theorem zyx90 {l : Launch} {D : va_G} {tys : List (ClassId × FieldType)} {o : zO} {z : Nat} (E : zEnv tys) : zKnW l D vwCl tys o z (zXX o z) zTs zprog2 zyx90d :=
  zkn_mk E (fun g => List.forall_mem_cons.mpr ⟨zyx89 (o := zwith o g) E, fun _ h => absurd h List.not_mem_nil⟩) (show zget zprog2 259 = some mX8_number from rfl) rfl (by decide) (by decide) (by decide) (by decide) (G := zyx90p) (zkn_pt E (fun g => List.forall_mem_cons.mpr ⟨zyx89 (o := zwith o g) E, fun _ h => absurd h List.not_mem_nil⟩) (show zget zprog2 259 = some mX8_number from rfl) (fun _ h => absurd h List.not_mem_nil) zyx90c) zyx90e
/-! X8_thing -/
noncomputable def zyx91a : List zAV := [.inr (.inr (.inl 94)), .inl ((.ofNat 0, .ofNat 4), none)]
def zyx91r : Option zAV := some (.inl ((.negSucc 2147483647, .ofNat 2147483647), none))
noncomputable def zyx91p : List zPw := []
noncomputable def zyx91d : zKw := (292, 4, 32, 3900, zyx91a, zyh269, [(zyx91r, zyh312)])
set_option maxRecDepth 100000 in
theorem zyx91e : zrunw zprog2 (zovW [zyx90d, zyx88d, zyx85d, zyx41d, zyx42d]) 100000 (zcutW [] none ((zyx91r, zyh312), 32, 3900) zyx91p) 32 3900 k2X8_thing (zkin zyx91r zyh312) 0 (zargs 0 zyx91a, [], (zyh269.1, zyh269.2.1, 0), 0, 0) = true := by decide +kernel
theorem zyx91 {l : Launch} {D : va_G} {tys : List (ClassId × FieldType)} {o : zO} {z : Nat} (E : zEnv tys) : zKnW l D vwCl tys o z (zXX o z) zTs zprog2 zyx91d :=
  zkn_mk E (fun g => List.forall_mem_cons.mpr ⟨zyx90 (o := zwith o g) E, List.forall_mem_cons.mpr ⟨zyx88 (o := zwith o g) E, List.forall_mem_cons.mpr ⟨zyx85 (o := zwith o g) E, List.forall_mem_cons.mpr ⟨zyx41 (o := zwith o g) E, List.forall_mem_cons.mpr ⟨zyx42 (o := zwith o g) E, fun _ h => absurd h List.not_mem_nil⟩⟩⟩⟩⟩) (show zget zprog2 292 = some m2X8_thing from rfl) rfl (by decide) (by decide) (by decide) (by decide) (G := zyx91p) (fun _ h => absurd h List.not_mem_nil) zyx91e
/-! X8_product ((('r', 99), 40, 33),) -/
noncomputable def zyx92a : List zAV := [.inr (.inr (.inl 94)), .inl ((.ofNat 0, .ofNat 4), none)]
def zyx92r : Option zAV := some (.inl ((.negSucc 2147483647, .ofNat 2147483647), none))
noncomputable def zyx92q : zPw := ((6, ([(0, .inr (.inr (.inl 94))), (1, .inl ((.ofNat 0, .ofNat 4), some (1, .ofNat 0))), (2, .inl ((.negSucc 2147483647, .ofNat 2147483647), some (2, .ofNat 0)))], [], zyh312, 0, 0), [], 0), (zyx92r, zyh312), 33, 4020)
set_option maxRecDepth 100000 in
theorem zyx92c : zchkX [(94, 15)] zprog2 (zovW [zyx91d, zyx85d]) 100000 k2X8_product [zyx86q, zyx80q, zyx74q, zyx68q, zyx62q, zyx56q, zyx50q] [zyx92q] [zyx92q] = true := by decide +kernel
theorem zyx92k {l : Launch} {D : va_G} {tys : List (ClassId × FieldType)} {o : zO} {z : Nat} (E : zEnv tys) : zPtOk l D vwCl tys o z (zXX o z) zTs m2X8_product zyx92q := zkn_pt E (fun g => List.forall_mem_cons.mpr ⟨zyx91 (o := zwith o g) E, List.forall_mem_cons.mpr ⟨zyx85 (o := zwith o g) E, fun _ h => absurd h List.not_mem_nil⟩⟩) (show zget zprog2 265 = some m2X8_product from rfl) (List.forall_mem_cons.mpr ⟨zyx86k E, List.forall_mem_cons.mpr ⟨zyx80k E, List.forall_mem_cons.mpr ⟨zyx74k E, List.forall_mem_cons.mpr ⟨zyx68k E, List.forall_mem_cons.mpr ⟨zyx62k E, List.forall_mem_cons.mpr ⟨zyx56k E, List.forall_mem_cons.mpr ⟨zyx50k E, fun _ h => absurd h List.not_mem_nil⟩⟩⟩⟩⟩⟩⟩) zyx92c _ List.mem_cons_self
noncomputable def zyx92d : zKw := (265, 5, 33, 4020, zyx92a, zyh269, [(zyx92r, zyh312)])
set_option maxRecDepth 100000 in
theorem zyx92e : zrunw zprog2 (zovW [zyx91d, zyx85d]) 100000 (zcutW [(94, 15)] none ((zyx92r, zyh312), 33, 4020) [zyx92q, zyx86q, zyx80q, zyx74q, zyx68q, zyx62q, zyx56q, zyx50q]) 33 4020 k2X8_product (zkin zyx92r zyh312) 0 (zargs 0 zyx92a, [], (zyh269.1, zyh269.2.1, 0), 0, 0) = true := by decide +kernel
theorem zyx92 {l : Launch} {D : va_G} {tys : List (ClassId × FieldType)} {o : zO} {z : Nat} (E : zEnv tys) : zKnW l D vwCl tys o z (zXX o z) zTs zprog2 zyx92d :=
  zkn_mk E (fun g => List.forall_mem_cons.mpr ⟨zyx91 (o := zwith o g) E, List.forall_mem_cons.mpr ⟨zyx85 (o := zwith o g) E, fun _ h => absurd h List.not_mem_nil⟩⟩) (show zget zprog2 265 = some m2X8_product from rfl) rfl (by decide) (by decide) (by decide) (by decide) (G := [zyx92q, zyx86q, zyx80q, zyx74q, zyx68q, zyx62q, zyx56q, zyx50q]) (List.forall_mem_cons.mpr ⟨zyx92k E, List.forall_mem_cons.mpr ⟨zyx86k E, List.forall_mem_cons.mpr ⟨zyx80k E, List.forall_mem_cons.mpr ⟨zyx74k E, List.forall_mem_cons.mpr ⟨zyx68k E, List.forall_mem_cons.mpr ⟨zyx62k E, List.forall_mem_cons.mpr ⟨zyx56k E, List.forall_mem_cons.mpr ⟨zyx50k E, fun _ h => absurd h List.not_mem_nil⟩⟩⟩⟩⟩⟩⟩⟩) zyx92e
/-! X8_sum ((('r', 99), 40, 33),) -/
noncomputable def zyx93a : List zAV := [.inr (.inr (.inl 94)), .inl ((.ofNat 1, .ofNat 4), none)]
def zyx93r : Option zAV := some (.inl ((.negSucc 2147483647, .ofNat 2147483647), none))
noncomputable def zyx93q : zPw := ((6, ([(0, .inr (.inr (.inl 94))), (1, .inl ((.ofNat 0, .ofNat 4), some (1, .ofNat 0))), (2, .inl ((.negSucc 2147483647, .ofNat 2147483647), some (2, .ofNat 0)))], [], zyh312, 0, 0), [], 0), (zyx93r, zyh312), 34, 4140)
set_option maxRecDepth 100000 in
theorem zyx93c : zchkX [(94, 15)] zprog2 (zovW [zyx92d, zyx86d]) 100000 kX8_sum [zyx87q, zyx81q, zyx75q, zyx69q, zyx63q, zyx57q, zyx51q] [zyx93q] [zyx93q] = true := by decide +kernel
theorem zyx93k {l : Launch} {D : va_G} {tys : List (ClassId × FieldType)} {o : zO} {z : Nat} (E : zEnv tys) : zPtOk l D vwCl tys o z (zXX o z) zTs mX8_sum zyx93q := zkn_pt E (fun g => List.forall_mem_cons.mpr ⟨zyx92 (o := zwith o g) E, List.forall_mem_cons.mpr ⟨zyx86 (o := zwith o g) E, fun _ h => absurd h List.not_mem_nil⟩⟩) (show zget zprog2 284 = some mX8_sum from rfl) (List.forall_mem_cons.mpr ⟨zyx87k E, List.forall_mem_cons.mpr ⟨zyx81k E, List.forall_mem_cons.mpr ⟨zyx75k E, List.forall_mem_cons.mpr ⟨zyx69k E, List.forall_mem_cons.mpr ⟨zyx63k E, List.forall_mem_cons.mpr ⟨zyx57k E, List.forall_mem_cons.mpr ⟨zyx51k E, fun _ h => absurd h List.not_mem_nil⟩⟩⟩⟩⟩⟩⟩) zyx93c _ List.mem_cons_self
noncomputable def zyx93d : zKw := (284, 5, 34, 4140, zyx93a, zyh269, [(zyx93r, zyh312)])
set_option maxRecDepth 100000 in
theorem zyx93e : zrunw zprog2 (zovW [zyx92d, zyx86d]) 100000 (zcutW [(94, 15)] none ((zyx93r, zyh312), 34, 4140) [zyx93q, zyx87q, zyx81q, zyx75q, zyx69q, zyx63q, zyx57q, zyx51q]) 34 4140 kX8_sum (zkin zyx93r zyh312) 0 (zargs 0 zyx93a, [], (zyh269.1, zyh269.2.1, 0), 0, 0) = true := by decide +kernel
theorem zyx93 {l : Launch} {D : va_G} {tys : List (ClassId × FieldType)} {o : zO} {z : Nat} (E : zEnv tys) : zKnW l D vwCl tys o z (zXX o z) zTs zprog2 zyx93d :=
  zkn_mk E (fun g => List.forall_mem_cons.mpr ⟨zyx92 (o := zwith o g) E, List.forall_mem_cons.mpr ⟨zyx86 (o := zwith o g) E, fun _ h => absurd h List.not_mem_nil⟩⟩) (show zget zprog2 284 = some mX8_sum from rfl) rfl (by decide) (by decide) (by decide) (by decide) (G := [zyx93q, zyx87q, zyx81q, zyx75q, zyx69q, zyx63q, zyx57q, zyx51q]) (List.forall_mem_cons.mpr ⟨zyx93k E, List.forall_mem_cons.mpr ⟨zyx87k E, List.forall_mem_cons.mpr ⟨zyx81k E, List.forall_mem_cons.mpr ⟨zyx75k E, List.forall_mem_cons.mpr ⟨zyx69k E, List.forall_mem_cons.mpr ⟨zyx63k E, List.forall_mem_cons.mpr ⟨zyx57k E, List.forall_mem_cons.mpr ⟨zyx51k E, fun _ h => absurd h List.not_mem_nil⟩⟩⟩⟩⟩⟩⟩⟩) zyx93e
/-! X8_heldBy -/
noncomputable def zyx94a : List zAV := [.inr (.inr (.inl 94)), .inl ((.ofNat 1, .ofNat 4), none)]
def zyx94r : Option zAV := some (.inl ((.negSucc 2147483647, .ofNat 2147483647), none))
noncomputable def zyx94p : List zPw := []
noncomputable def zyx94d : zKw := (229, 3, 35, 4260, zyx94a, zyh269, [(zyx94r, zyh312)])
set_option maxRecDepth 100000 in
theorem zyx94e : zrunw zprog2 (zovW [zyx93d, zyx87d, zyx41d]) 100000 (zcutW [] none ((zyx94r, zyh312), 35, 4260) zyx94p) 35 4260 kX8_heldBy (zkin zyx94r zyh312) 0 (zargs 0 zyx94a, [], (zyh269.1, zyh269.2.1, 0), 0, 0) = true := by decide +kernel
theorem zyx94 {l : Launch} {D : va_G} {tys : List (ClassId × FieldType)} {o : zO} {z : Nat} (E : zEnv tys) : zKnW l D vwCl tys o z (zXX o z) zTs zprog2 zyx94d :=
  zkn_mk E (fun g => List.forall_mem_cons.mpr ⟨zyx93 (o := zwith o g) E, List.forall_mem_cons.mpr ⟨zyx87 (o := zwith o g) E, List.forall_mem_cons.mpr ⟨zyx41 (o := zwith o g) E, fun _ h => absurd h List.not_mem_nil⟩⟩⟩) (show zget zprog2 229 = some mX8_heldBy from rfl) rfl (by decide) (by decide) (by decide) (by decide) (G := zyx94p) (fun _ h => absurd h List.not_mem_nil) zyx94e
/-! X8_oneOf -/
noncomputable def zyx95a : List zAV := [zyv320, zyv362, zyv363]
noncomputable def zyx95q : List (Option zAV × zH) := [(some (.inl ((.ofNat 0, .ofNat 0), none)), zyh313), (some (.inl ((.negSucc 175, .ofNat 79), none)), zyh314)]
noncomputable def zyx95d : zKw := (260, 3, 4, 480, zyx95a, zyh266, zyx95q)
set_option maxRecDepth 100000 in
theorem zyx95e : zrunw zprog2 (zovW []) 100000 zcut0 4 480 kX8_oneOf (zkinL zyx95q) 0 (zargs 0 zyx95a, [], (zyh266.1, zyh266.2.1, 0), 0, 0) = true := by decide +kernel
theorem zyx95 {l : Launch} {D : va_G} {tys : List (ClassId × FieldType)} {o : zO} {z : Nat} (E : zEnv tys) : zKnW l D vwCl tys o z (zXX o z) zTs zprog2 zyx95d :=
  zkn_ml E (fun g => fun _ h => absurd h List.not_mem_nil) (show zget zprog2 260 = some mX8_oneOf from rfl) rfl (by decide) (by decide) (by decide) (by decide) zyx95e
/-! X8_number -/
noncomputable def zyx96a : List zAV := [.inr (.inr (.inl 94)), .inl ((.ofNat 3, .ofNat 3), none)]
def zyx96r : Option zAV := some (.inl ((.negSucc 2147483647, .ofNat 2147483647), none))
noncomputable def zyx96p : List zPw := [((11, ([(0, .inr (.inr (.inl 94))), (1, .inl ((.ofNat 3, .ofNat 3), some (1, .ofNat 0))), (2, .inl ((.negSucc 2147483647, .ofNat 2147483647), some (2, .ofNat 0))), (3, .inl ((.ofNat 1, .ofNat 3), some (3, .ofNat 0)))], [], zyh315, 0, 0), [(3, .negSucc 1)], .ofNat 7), (zyx96r, zyh315), 5, 600)]
noncomputable def zyx96d : zKw := (259, 4, 5, 600, zyx96a, zyh266, [(zyx96r, zyh315)])
set_option maxRecDepth 100000 in
theorem zyx96c : zchkX [] zprog2 (zovW [zyx95d]) 100000 kX8_number [] zyx96p zyx96p = true := by decide +kernel
set_option maxRecDepth 100000 in
theorem zyx96e : zrunw zprog2 (zovW [zyx95d]) 100000 (zcutW [] none ((zyx96r, zyh315), 5, 600) zyx96p) 5 600 kX8_number (zkin zyx96r zyh315) 0 (zargs 0 zyx96a, [], (zyh266.1, zyh266.2.1, 0), 0, 0) = true := by decide +kernel
theorem zyx96 {l : Launch} {D : va_G} {tys : List (ClassId × FieldType)} {o : zO} {z : Nat} (E : zEnv tys) : zKnW l D vwCl tys o z (zXX o z) zTs zprog2 zyx96d :=
  zkn_mk E (fun g => List.forall_mem_cons.mpr ⟨zyx95 (o := zwith o g) E, fun _ h => absurd h List.not_mem_nil⟩) (show zget zprog2 259 = some mX8_number from rfl) rfl (by decide) (by decide) (by decide) (by decide) (G := zyx96p) (zkn_pt E (fun g => List.forall_mem_cons.mpr ⟨zyx95 (o := zwith o g) E, fun _ h => absurd h List.not_mem_nil⟩) (show zget zprog2 259 = some mX8_number from rfl) (fun _ h => absurd h List.not_mem_nil) zyx96c) zyx96e
/-! X8_thing -/
noncomputable def zyx97a : List zAV := [.inr (.inr (.inl 94)), .inl ((.ofNat 0, .ofNat 4), none)]
def zyx97r : Option zAV := some (.inl ((.negSucc 2147483647, .ofNat 2147483647), none))
noncomputable def zyx97p : List zPw := []
noncomputable def zyx97d : zKw := (292, 4, 36, 4380, zyx97a, zyh266, [(zyx97r, zyh315)])
set_option maxRecDepth 100000 in
theorem zyx97e : zrunw zprog2 (zovW [zyx96d, zyx94d, zyx91d, zyx40d, zyx41d]) 100000 (zcutW [] none ((zyx97r, zyh315), 36, 4380) zyx97p) 36 4380 k2X8_thing (zkin zyx97r zyh315) 0 (zargs 0 zyx97a, [], (zyh266.1, zyh266.2.1, 0), 0, 0) = true := by decide +kernel
theorem zyx97 {l : Launch} {D : va_G} {tys : List (ClassId × FieldType)} {o : zO} {z : Nat} (E : zEnv tys) : zKnW l D vwCl tys o z (zXX o z) zTs zprog2 zyx97d :=
  zkn_mk E (fun g => List.forall_mem_cons.mpr ⟨zyx96 (o := zwith o g) E, List.forall_mem_cons.mpr ⟨zyx94 (o := zwith o g) E, List.forall_mem_cons.mpr ⟨zyx91 (o := zwith o g) E, List.forall_mem_cons.mpr ⟨zyx40 (o := zwith o g) E, List.forall_mem_cons.mpr ⟨zyx41 (o := zwith o g) E, fun _ h => absurd h List.not_mem_nil⟩⟩⟩⟩⟩) (show zget zprog2 292 = some m2X8_thing from rfl) rfl (by decide) (by decide) (by decide) (by decide) (G := zyx97p) (fun _ h => absurd h List.not_mem_nil) zyx97e
/-! X8_product ((('r', 99), 40, 32),) -/
noncomputable def zyx98a : List zAV := [.inr (.inr (.inl 94)), .inl ((.ofNat 0, .ofNat 4), none)]
def zyx98r : Option zAV := some (.inl ((.negSucc 2147483647, .ofNat 2147483647), none))
noncomputable def zyx98q : zPw := ((6, ([(0, .inr (.inr (.inl 94))), (1, .inl ((.ofNat 0, .ofNat 4), some (1, .ofNat 0))), (2, .inl ((.negSucc 2147483647, .ofNat 2147483647), some (2, .ofNat 0)))], [], zyh315, 0, 0), [], 0), (zyx98r, zyh315), 37, 4500)
set_option maxRecDepth 100000 in
theorem zyx98c : zchkX [(94, 15)] zprog2 (zovW [zyx97d, zyx91d]) 100000 k2X8_product [zyx92q, zyx86q, zyx80q, zyx74q, zyx68q, zyx62q, zyx56q, zyx50q] [zyx98q] [zyx98q] = true := by decide +kernel
theorem zyx98k {l : Launch} {D : va_G} {tys : List (ClassId × FieldType)} {o : zO} {z : Nat} (E : zEnv tys) : zPtOk l D vwCl tys o z (zXX o z) zTs m2X8_product zyx98q := zkn_pt E (fun g => List.forall_mem_cons.mpr ⟨zyx97 (o := zwith o g) E, List.forall_mem_cons.mpr ⟨zyx91 (o := zwith o g) E, fun _ h => absurd h List.not_mem_nil⟩⟩) (show zget zprog2 265 = some m2X8_product from rfl) (List.forall_mem_cons.mpr ⟨zyx92k E, List.forall_mem_cons.mpr ⟨zyx86k E, List.forall_mem_cons.mpr ⟨zyx80k E, List.forall_mem_cons.mpr ⟨zyx74k E, List.forall_mem_cons.mpr ⟨zyx68k E, List.forall_mem_cons.mpr ⟨zyx62k E, List.forall_mem_cons.mpr ⟨zyx56k E, List.forall_mem_cons.mpr ⟨zyx50k E, fun _ h => absurd h List.not_mem_nil⟩⟩⟩⟩⟩⟩⟩⟩) zyx98c _ List.mem_cons_self
noncomputable def zyx98d : zKw := (265, 5, 37, 4500, zyx98a, zyh266, [(zyx98r, zyh315)])
set_option maxRecDepth 100000 in
theorem zyx98e : zrunw zprog2 (zovW [zyx97d, zyx91d]) 100000 (zcutW [(94, 15)] none ((zyx98r, zyh315), 37, 4500) [zyx98q, zyx92q, zyx86q, zyx80q, zyx74q, zyx68q, zyx62q, zyx56q, zyx50q]) 37 4500 k2X8_product (zkin zyx98r zyh315) 0 (zargs 0 zyx98a, [], (zyh266.1, zyh266.2.1, 0), 0, 0) = true := by decide +kernel
theorem zyx98 {l : Launch} {D : va_G} {tys : List (ClassId × FieldType)} {o : zO} {z : Nat} (E : zEnv tys) : zKnW l D vwCl tys o z (zXX o z) zTs zprog2 zyx98d :=
  zkn_mk E (fun g => List.forall_mem_cons.mpr ⟨zyx97 (o := zwith o g) E, List.forall_mem_cons.mpr ⟨zyx91 (o := zwith o g) E, fun _ h => absurd h List.not_mem_nil⟩⟩) (show zget zprog2 265 = some m2X8_product from rfl) rfl (by decide) (by decide) (by decide) (by decide) (G := [zyx98q, zyx92q, zyx86q, zyx80q, zyx74q, zyx68q, zyx62q, zyx56q, zyx50q]) (List.forall_mem_cons.mpr ⟨zyx98k E, List.forall_mem_cons.mpr ⟨zyx92k E, List.forall_mem_cons.mpr ⟨zyx86k E, List.forall_mem_cons.mpr ⟨zyx80k E, List.forall_mem_cons.mpr ⟨zyx74k E, List.forall_mem_cons.mpr ⟨zyx68k E, List.forall_mem_cons.mpr ⟨zyx62k E, List.forall_mem_cons.mpr ⟨zyx56k E, List.forall_mem_cons.mpr ⟨zyx50k E, fun _ h => absurd h List.not_mem_nil⟩⟩⟩⟩⟩⟩⟩⟩⟩) zyx98e
/-! X8_sum ((('r', 99), 40, 32),) -/
noncomputable def zyx99a : List zAV := [.inr (.inr (.inl 94)), .inl ((.ofNat 1, .ofNat 4), none)]
def zyx99r : Option zAV := some (.inl ((.negSucc 2147483647, .ofNat 2147483647), none))
noncomputable def zyx99q : zPw := ((6, ([(0, .inr (.inr (.inl 94))), (1, .inl ((.ofNat 0, .ofNat 4), some (1, .ofNat 0))), (2, .inl ((.negSucc 2147483647, .ofNat 2147483647), some (2, .ofNat 0)))], [], zyh315, 0, 0), [], 0), (zyx99r, zyh315), 38, 4620)
set_option maxRecDepth 100000 in
theorem zyx99c : zchkX [(94, 15)] zprog2 (zovW [zyx98d, zyx92d]) 100000 kX8_sum [zyx93q, zyx87q, zyx81q, zyx75q, zyx69q, zyx63q, zyx57q, zyx51q] [zyx99q] [zyx99q] = true := by decide +kernel
theorem zyx99k {l : Launch} {D : va_G} {tys : List (ClassId × FieldType)} {o : zO} {z : Nat} (E : zEnv tys) : zPtOk l D vwCl tys o z (zXX o z) zTs mX8_sum zyx99q := zkn_pt E (fun g => List.forall_mem_cons.mpr ⟨zyx98 (o := zwith o g) E, List.forall_mem_cons.mpr ⟨zyx92 (o := zwith o g) E, fun _ h => absurd h List.not_mem_nil⟩⟩) (show zget zprog2 284 = some mX8_sum from rfl) (List.forall_mem_cons.mpr ⟨zyx93k E, List.forall_mem_cons.mpr ⟨zyx87k E, List.forall_mem_cons.mpr ⟨zyx81k E, List.forall_mem_cons.mpr ⟨zyx75k E, List.forall_mem_cons.mpr ⟨zyx69k E, List.forall_mem_cons.mpr ⟨zyx63k E, List.forall_mem_cons.mpr ⟨zyx57k E, List.forall_mem_cons.mpr ⟨zyx51k E, fun _ h => absurd h List.not_mem_nil⟩⟩⟩⟩⟩⟩⟩⟩) zyx99c _ List.mem_cons_self
noncomputable def zyx99d : zKw := (284, 5, 38, 4620, zyx99a, zyh266, [(zyx99r, zyh315)])
set_option maxRecDepth 100000 in
theorem zyx99e : zrunw zprog2 (zovW [zyx98d, zyx92d]) 100000 (zcutW [(94, 15)] none ((zyx99r, zyh315), 38, 4620) [zyx99q, zyx93q, zyx87q, zyx81q, zyx75q, zyx69q, zyx63q, zyx57q, zyx51q]) 38 4620 kX8_sum (zkin zyx99r zyh315) 0 (zargs 0 zyx99a, [], (zyh266.1, zyh266.2.1, 0), 0, 0) = true := by decide +kernel
theorem zyx99 {l : Launch} {D : va_G} {tys : List (ClassId × FieldType)} {o : zO} {z : Nat} (E : zEnv tys) : zKnW l D vwCl tys o z (zXX o z) zTs zprog2 zyx99d :=
  zkn_mk E (fun g => List.forall_mem_cons.mpr ⟨zyx98 (o := zwith o g) E, List.forall_mem_cons.mpr ⟨zyx92 (o := zwith o g) E, fun _ h => absurd h List.not_mem_nil⟩⟩) (show zget zprog2 284 = some mX8_sum from rfl) rfl (by decide) (by decide) (by decide) (by decide) (G := [zyx99q, zyx93q, zyx87q, zyx81q, zyx75q, zyx69q, zyx63q, zyx57q, zyx51q]) (List.forall_mem_cons.mpr ⟨zyx99k E, List.forall_mem_cons.mpr ⟨zyx93k E, List.forall_mem_cons.mpr ⟨zyx87k E, List.forall_mem_cons.mpr ⟨zyx81k E, List.forall_mem_cons.mpr ⟨zyx75k E, List.forall_mem_cons.mpr ⟨zyx69k E, List.forall_mem_cons.mpr ⟨zyx63k E, List.forall_mem_cons.mpr ⟨zyx57k E, List.forall_mem_cons.mpr ⟨zyx51k E, fun _ h => absurd h List.not_mem_nil⟩⟩⟩⟩⟩⟩⟩⟩⟩) zyx99e
/-! X8_heldBy -/
noncomputable def zyx100a : List zAV := [.inr (.inr (.inl 94)), .inl ((.ofNat 1, .ofNat 4), none)]
def zyx100r : Option zAV := some (.inl ((.negSucc 2147483647, .ofNat 2147483647), none))
noncomputable def zyx100p : List zPw := []
noncomputable def zyx100d : zKw := (229, 3, 39, 4740, zyx100a, zyh266, [(zyx100r, zyh315)])
set_option maxRecDepth 100000 in
theorem zyx100e : zrunw zprog2 (zovW [zyx99d, zyx93d, zyx40d]) 100000 (zcutW [] none ((zyx100r, zyh315), 39, 4740) zyx100p) 39 4740 kX8_heldBy (zkin zyx100r zyh315) 0 (zargs 0 zyx100a, [], (zyh266.1, zyh266.2.1, 0), 0, 0) = true := by decide +kernel
theorem zyx100 {l : Launch} {D : va_G} {tys : List (ClassId × FieldType)} {o : zO} {z : Nat} (E : zEnv tys) : zKnW l D vwCl tys o z (zXX o z) zTs zprog2 zyx100d :=
  zkn_mk E (fun g => List.forall_mem_cons.mpr ⟨zyx99 (o := zwith o g) E, List.forall_mem_cons.mpr ⟨zyx93 (o := zwith o g) E, List.forall_mem_cons.mpr ⟨zyx40 (o := zwith o g) E, fun _ h => absurd h List.not_mem_nil⟩⟩⟩) (show zget zprog2 229 = some mX8_heldBy from rfl) rfl (by decide) (by decide) (by decide) (by decide) (G := zyx100p) (fun _ h => absurd h List.not_mem_nil) zyx100e
/-! X8_oneOf -/
noncomputable def zyx101a : List zAV := [zyv320, zyv362, zyv363]
noncomputable def zyx101q : List (Option zAV × zH) := [(some (.inl ((.ofNat 0, .ofNat 0), none)), zyh316), (some (.inl ((.negSucc 175, .ofNat 79), none)), zyh317)]
noncomputable def zyx101d : zKw := (260, 3, 4, 480, zyx101a, zyh263, zyx101q)
set_option maxRecDepth 100000 in
theorem zyx101e : zrunw zprog2 (zovW []) 100000 zcut0 4 480 kX8_oneOf (zkinL zyx101q) 0 (zargs 0 zyx101a, [], (zyh263.1, zyh263.2.1, 0), 0, 0) = true := by decide +kernel
theorem zyx101 {l : Launch} {D : va_G} {tys : List (ClassId × FieldType)} {o : zO} {z : Nat} (E : zEnv tys) : zKnW l D vwCl tys o z (zXX o z) zTs zprog2 zyx101d :=
  zkn_ml E (fun g => fun _ h => absurd h List.not_mem_nil) (show zget zprog2 260 = some mX8_oneOf from rfl) rfl (by decide) (by decide) (by decide) (by decide) zyx101e
/-! X8_number -/
noncomputable def zyx102a : List zAV := [.inr (.inr (.inl 94)), .inl ((.ofNat 3, .ofNat 3), none)]
def zyx102r : Option zAV := some (.inl ((.negSucc 2147483647, .ofNat 2147483647), none))
noncomputable def zyx102p : List zPw := [((11, ([(0, .inr (.inr (.inl 94))), (1, .inl ((.ofNat 3, .ofNat 3), some (1, .ofNat 0))), (2, .inl ((.negSucc 2147483647, .ofNat 2147483647), some (2, .ofNat 0))), (3, .inl ((.ofNat 1, .ofNat 3), some (3, .ofNat 0)))], [], zyh318, 0, 0), [(3, .negSucc 1)], .ofNat 7), (zyx102r, zyh318), 5, 600)]
noncomputable def zyx102d : zKw := (259, 4, 5, 600, zyx102a, zyh263, [(zyx102r, zyh318)])
set_option maxRecDepth 100000 in
theorem zyx102c : zchkX [] zprog2 (zovW [zyx101d]) 100000 kX8_number [] zyx102p zyx102p = true := by decide +kernel
set_option maxRecDepth 100000 in
theorem zyx102e : zrunw zprog2 (zovW [zyx101d]) 100000 (zcutW [] none ((zyx102r, zyh318), 5, 600) zyx102p) 5 600 kX8_number (zkin zyx102r zyh318) 0 (zargs 0 zyx102a, [], (zyh263.1, zyh263.2.1, 0), 0, 0) = true := by decide +kernel
theorem zyx102 {l : Launch} {D : va_G} {tys : List (ClassId × FieldType)} {o : zO} {z : Nat} (E : zEnv tys) : zKnW l D vwCl tys o z (zXX o z) zTs zprog2 zyx102d :=
  zkn_mk E (fun g => List.forall_mem_cons.mpr ⟨zyx101 (o := zwith o g) E, fun _ h => absurd h List.not_mem_nil⟩) (show zget zprog2 259 = some mX8_number from rfl) rfl (by decide) (by decide) (by decide) (by decide) (G := zyx102p) (zkn_pt E (fun g => List.forall_mem_cons.mpr ⟨zyx101 (o := zwith o g) E, fun _ h => absurd h List.not_mem_nil⟩) (show zget zprog2 259 = some mX8_number from rfl) (fun _ h => absurd h List.not_mem_nil) zyx102c) zyx102e
/-! X8_thing -/
noncomputable def zyx103a : List zAV := [.inr (.inr (.inl 94)), .inl ((.ofNat 0, .ofNat 4), none)]
def zyx103r : Option zAV := some (.inl ((.negSucc 2147483647, .ofNat 2147483647), none))
noncomputable def zyx103p : List zPw := []
noncomputable def zyx103d : zKw := (292, 4, 40, 4860, zyx103a, zyh263, [(zyx103r, zyh318)])
set_option maxRecDepth 100000 in
theorem zyx103e : zrunw zprog2 (zovW [zyx102d, zyx100d, zyx97d, zyx39d, zyx40d]) 100000 (zcutW [] none ((zyx103r, zyh318), 40, 4860) zyx103p) 40 4860 k2X8_thing (zkin zyx103r zyh318) 0 (zargs 0 zyx103a, [], (zyh263.1, zyh263.2.1, 0), 0, 0) = true := by decide +kernel
theorem zyx103 {l : Launch} {D : va_G} {tys : List (ClassId × FieldType)} {o : zO} {z : Nat} (E : zEnv tys) : zKnW l D vwCl tys o z (zXX o z) zTs zprog2 zyx103d :=
  zkn_mk E (fun g => List.forall_mem_cons.mpr ⟨zyx102 (o := zwith o g) E, List.forall_mem_cons.mpr ⟨zyx100 (o := zwith o g) E, List.forall_mem_cons.mpr ⟨zyx97 (o := zwith o g) E, List.forall_mem_cons.mpr ⟨zyx39 (o := zwith o g) E, List.forall_mem_cons.mpr ⟨zyx40 (o := zwith o g) E, fun _ h => absurd h List.not_mem_nil⟩⟩⟩⟩⟩) (show zget zprog2 292 = some m2X8_thing from rfl) rfl (by decide) (by decide) (by decide) (by decide) (G := zyx103p) (fun _ h => absurd h List.not_mem_nil) zyx103e
/-! X8_product ((('r', 99), 40, 31),) -/
noncomputable def zyx104a : List zAV := [.inr (.inr (.inl 94)), .inl ((.ofNat 0, .ofNat 4), none)]
def zyx104r : Option zAV := some (.inl ((.negSucc 2147483647, .ofNat 2147483647), none))
noncomputable def zyx104q : zPw := ((6, ([(0, .inr (.inr (.inl 94))), (1, .inl ((.ofNat 0, .ofNat 4), some (1, .ofNat 0))), (2, .inl ((.negSucc 2147483647, .ofNat 2147483647), some (2, .ofNat 0)))], [], zyh318, 0, 0), [], 0), (zyx104r, zyh318), 41, 4980)
set_option maxRecDepth 100000 in
theorem zyx104c : zchkX [(94, 15)] zprog2 (zovW [zyx103d, zyx97d]) 100000 k2X8_product [zyx98q, zyx92q, zyx86q, zyx80q, zyx74q, zyx68q, zyx62q, zyx56q, zyx50q] [zyx104q] [zyx104q] = true := by decide +kernel
theorem zyx104k {l : Launch} {D : va_G} {tys : List (ClassId × FieldType)} {o : zO} {z : Nat} (E : zEnv tys) : zPtOk l D vwCl tys o z (zXX o z) zTs m2X8_product zyx104q := zkn_pt E (fun g => List.forall_mem_cons.mpr ⟨zyx103 (o := zwith o g) E, List.forall_mem_cons.mpr ⟨zyx97 (o := zwith o g) E, fun _ h => absurd h List.not_mem_nil⟩⟩) (show zget zprog2 265 = some m2X8_product from rfl) (List.forall_mem_cons.mpr ⟨zyx98k E, List.forall_mem_cons.mpr ⟨zyx92k E, List.forall_mem_cons.mpr ⟨zyx86k E, List.forall_mem_cons.mpr ⟨zyx80k E, List.forall_mem_cons.mpr ⟨zyx74k E, List.forall_mem_cons.mpr ⟨zyx68k E, List.forall_mem_cons.mpr ⟨zyx62k E, List.forall_mem_cons.mpr ⟨zyx56k E, List.forall_mem_cons.mpr ⟨zyx50k E, fun _ h => absurd h List.not_mem_nil⟩⟩⟩⟩⟩⟩⟩⟩⟩) zyx104c _ List.mem_cons_self
noncomputable def zyx104d : zKw := (265, 5, 41, 4980, zyx104a, zyh263, [(zyx104r, zyh318)])
set_option maxRecDepth 100000 in
theorem zyx104e : zrunw zprog2 (zovW [zyx103d, zyx97d]) 100000 (zcutW [(94, 15)] none ((zyx104r, zyh318), 41, 4980) [zyx104q, zyx98q, zyx92q, zyx86q, zyx80q, zyx74q, zyx68q, zyx62q, zyx56q, zyx50q]) 41 4980 k2X8_product (zkin zyx104r zyh318) 0 (zargs 0 zyx104a, [], (zyh263.1, zyh263.2.1, 0), 0, 0) = true := by decide +kernel
theorem zyx104 {l : Launch} {D : va_G} {tys : List (ClassId × FieldType)} {o : zO} {z : Nat} (E : zEnv tys) : zKnW l D vwCl tys o z (zXX o z) zTs zprog2 zyx104d :=
  zkn_mk E (fun g => List.forall_mem_cons.mpr ⟨zyx103 (o := zwith o g) E, List.forall_mem_cons.mpr ⟨zyx97 (o := zwith o g) E, fun _ h => absurd h List.not_mem_nil⟩⟩) (show zget zprog2 265 = some m2X8_product from rfl) rfl (by decide) (by decide) (by decide) (by decide) (G := [zyx104q, zyx98q, zyx92q, zyx86q, zyx80q, zyx74q, zyx68q, zyx62q, zyx56q, zyx50q]) (List.forall_mem_cons.mpr ⟨zyx104k E, List.forall_mem_cons.mpr ⟨zyx98k E, List.forall_mem_cons.mpr ⟨zyx92k E, List.forall_mem_cons.mpr ⟨zyx86k E, List.forall_mem_cons.mpr ⟨zyx80k E, List.forall_mem_cons.mpr ⟨zyx74k E, List.forall_mem_cons.mpr ⟨zyx68k E, List.forall_mem_cons.mpr ⟨zyx62k E, List.forall_mem_cons.mpr ⟨zyx56k E, List.forall_mem_cons.mpr ⟨zyx50k E, fun _ h => absurd h List.not_mem_nil⟩⟩⟩⟩⟩⟩⟩⟩⟩⟩) zyx104e
