noncomputable def zyc377 : zC := .inr (8, [zyv117, zyv26, zyv27, zyv25, zyv118, zyv119, zyv120, zyv121, zyv17, zyv122, zyv25, zyv128, zyv114, zyv17, zyv123, zyv123, zyv124, zyv125, zyv126, zyv127, zyv35, zyv128, zyv129, zyv130, zyv13, zyv131, zyv132, zyv18, zyv18, zyv133, zyv134, zyv135, zyv136, zyv137, zyv138, zyv139, zyv140, zyv141, zyv142, zyv15, zyv144, zyv145, zyv146, zyv147, zyv15, zyv13, zyv15, zyv15, zyv148, zyv149, zyv150])
noncomputable def zyr308 : List zC := [zyc60, zyc60, zyc60, zyc69, zyc10, zyc10, zyc10, zyc12, zyc70, zyc8, zyc8, zyc70, zyc8, zyc8, zyc377, zyc78]
noncomputable def zyr309 : List zC := [zyc8, zyc8, zyc8, zyc79, zyc54, zyc80, zyc56, zyc56, zyc57, zyc58, zyc78, zyc78, zyc8, zyc8, zyc82, zyc4]
noncomputable def zyr310 : List zC := [zyc4, zyc4, zyc4, zyc83, zyc84, zyc40, zyc85, zyc43, zyc46, zyc46, zyc61, zyc33, zyc62, zyc63, zycF, zycF]
noncomputable def zyh338 : zH := (126, [zyr9, zyr10, zyr11, zyr12, zyr13, zyr308, zyr309, zyr310], 0)
def zym11 : Nat := 203134582951711704646121148769278015878417079753900997875920111225590861052170742460198519740929109493539422839476978984437130967740453593263577484948082959630347955776705678606434911065424123710323064165279572854867874420878811952841381948195571507011692716849293617071459130731424085462904015708780391791656661847098782330357723005150453500332156398863394224704795742619598926032155834837377695675960193742303007269908904802236531460151974655767656765012423218000798184699628790082717463834346122217589104499301372576340035168096047419739689742288166393103103053504826714622534888636740948740914879563777721014501745405531862449380972840942964164737831831458981611579312786392057229570322876652685894704965719300018453012236396621654621081330307199980823138246225864332822713772885443647759304834133496316899066243583477212959947970449813365929507239021923742197749211585904851187163926409959926099819298376560103780114793211831178166942577443850071535980995761039072041278369233223796063675796291719389461711004032162828258777606335620392322102950842911506773914480516948684741733594980678927568749035270310457430405096822464565889871407092515670107497167957054956801366944326296792898955191773327314121083572003295917270986485081282722271915499265754274250075277235715340640681288083657495790757897558877344714372566961276601397291969622340618276227536986269192559840522553718971802699432212620351169695708628554669640454379633043058325027009600185138568392673461707552053964535632234865057999083878886031878901694937836367985850899363462756882962111382379624425827830555454125767789663503093050443147191277974145659318942086052446884790797249544661311527380817615162884648406569358873574637572716995177517868866719474826379970356704458473532716586002764629545222913281216461041413210992366041779485834087497728
noncomputable def zyh339 : zH := (126, [zyr9, zyr10, zyr11, zyr12, zyr13, zyr14, zyr15, zyr16], zym11)
noncomputable def zyr311 : List zC := [zyc60, zyc60, zyc60, zyc69, zyc10, zyc10, zyc10, zyc12, zyc70, zyc8, zyc8, zyc70, zyc8, zyc8, zyc51, zyc52]
noncomputable def zyh340 : zH := (126, [zyr9, zyr10, zyr11, zyr12, zyr13, zyr311, zyr6, zyr7], 0)
def zym12 : Nat := 28638903918474961204418783933674838490721739172170652529441449702311064005352904159345284265824628375429359509218999720074396860757073376700445026041564579620512874307979212102266801261478978776245040008231745247475930553606737583615358787106474295296
noncomputable def zyh341 : zH := (126, [zyr0, zyr1, zyr2, zyr3, zyr4, zyr5, zyr6, zyr7], zym12)
/-! X8_hoursOf -/
noncomputable def zyx295a : List zAV := [.inr (.inr (.inl 94)), .inr (.inr (.inl 95)), .inl ((.ofNat 0, .ofNat 7), none)]
def zyx295r : Option zAV := some (.inl ((.ofNat 0, .ofNat 255), none))
noncomputable def zyx295q0 : zPw := ((5, ([(0, .inr (.inr (.inl 94))), (1, .inr (.inr (.inl 95))), (2, .inl ((.ofNat 0, .ofNat 7), some (2, .ofNat 0))), (3, .inl ((.ofNat 0, .ofNat 255), some (3, .ofNat 0))), (4, .inl ((.ofNat 0, .ofNat 8), some (4, .ofNat 0)))], [], zyh338, 0, 0), [(4, .negSucc 1)], .ofNat 17), (zyx295r, zyh338), 2, 300)
noncomputable def zbzyx295c0 : Bool := zchkX [] zprog2 (zovW []) 100000 kX8_hoursOf [] [zyx295q0] [zyx295q0]
noncomputable def zyx295d : zKw := (232, 5, 2, 300, zyx295a, zyh338, [(zyx295r, zyh338)])
noncomputable def zbzyx295e : Bool := zrunw zprog2 (zovW []) 100000 (zcutW [] none ((zyx295r, zyh338), 2, 300) [zyx295q0]) 2 300 kX8_hoursOf (zkin zyx295r zyh338) 0 (zargs 0 zyx295a, [], (zyh338.1, zyh338.2.1, 0), 0, 0)
/-! X8_rider -/
noncomputable def zyx296a : List zAV := [.inr (.inr (.inl 94)), .inl ((.negSucc 2147483647, .ofNat 2147483647), none), .inl ((.negSucc 2147483647, .ofNat 2147483647), none)]
def zyx296r : Option zAV := some (.inl ((.negSucc 2147483647, .ofNat 2147483647), none))
noncomputable def zyx296d : zKw := (271, 3, 4, 480, zyx296a, zyh2, [(zyx296r, zyh339)])
noncomputable def zbzyx296e : Bool := zrunw zprog2 (zovW [zyx295d]) 100000 (zcutW [] none ((zyx296r, zyh339), 4, 480) []) 4 480 k2X8_rider (zkin zyx296r zyh339) 0 (zargs 0 zyx296a, [], (zyh2.1, zyh2.2.1, 0), 0, 0)
/-! J6_bitCount_0f7a4 -/
noncomputable def zyx297a : List zAV := [.inl ((.ofNat 0, .ofNat 255), none)]
def zyx297r : Option zAV := some (.inl ((.ofNat 0, .ofNat 8), none))
noncomputable def zyx297d : zKw := (14, 1, 2, 300, zyx297a, zyh340, [(zyx297r, zyh340)])
noncomputable def zbzyx297e : Bool := zrunw zprog2 (zovW []) 100000 (zcutW [] none ((zyx297r, zyh340), 2, 300) []) 2 300 k2J6_bitCount_0f7a4 (zkin zyx297r zyh340) 0 (zargs 0 zyx297a, [], (zyh340.1, zyh340.2.1, 0), 0, 0)
/-! X3_value -/
noncomputable def zyx298a : List zAV := [.inr (.inr (.inl 10)), .inr (.inr (.inl 7))]
def zyx298r : Option zAV := some (.inl ((.negSucc 2147483647, .ofNat 2147483647), none))
noncomputable def zyx298q0 : zPw := ((4, ([(0, .inr (.inr (.inl 10))), (1, .inr (.inr (.inl 7))), (2, .inl ((.ofNat 0, .ofNat 40), some (2, .ofNat 0))), (3, .inl ((.ofNat 0, .ofNat 40), some (3, .ofNat 0)))], [], zyh341, 0, 0), [(3, .negSucc 1)], .ofNat 81), (zyx298r, zyh341), 3, 420)
noncomputable def zbzyx298c0 : Bool := zchkX [] zprog2 (zovW []) 100000 k2X3_value [] [zyx298q0] [zyx298q0]
noncomputable def zyx298d : zKw := (58, 5, 3, 420, zyx298a, zyh0, [(zyx298r, zyh341)])
noncomputable def zbzyx298e : Bool := zrunw zprog2 (zovW []) 100000 (zcutW [] none ((zyx298r, zyh341), 3, 420) [zyx298q0]) 3 420 k2X3_value (zkin zyx298r zyh341) 0 (zargs 0 zyx298a, [], (zyh0.1, zyh0.2.1, 0), 0, 0)
noncomputable def zyg14 : List Bool := [zbzyx295c0, zbzyx295e, zbzyx296e, zbzyx297e, zbzyx298c0, zbzyx298e]
set_option maxRecDepth 100000 in
theorem zyg14_ok : zall (fun b => b) zyg14 = true := by decide +kernel
theorem zyx295c0 : zchkX [] zprog2 (zovW []) 100000 kX8_hoursOf [] [zyx295q0] [zyx295q0] = true := zall_ok zyg14_ok (k := 0) (a := zbzyx295c0) rfl
theorem zyx295_k0 {l : Launch} {D : va_G} {tys : List (ClassId × FieldType)} {o : zO} {z : Nat} (E : zEnv tys) : zPtOk l D vwCl tys o z (zXX o z) zTs mX8_hoursOf zyx295q0 := zkn_pt E (fun g => fun _ h => absurd h List.not_mem_nil) (show zget zprog2 232 = some mX8_hoursOf from rfl) (fun _ h => absurd h List.not_mem_nil) zyx295c0 _ (List.mem_of_getElem? (i := 0) rfl)
theorem zyx295e : zrunw zprog2 (zovW []) 100000 (zcutW [] none ((zyx295r, zyh338), 2, 300) [zyx295q0]) 2 300 kX8_hoursOf (zkin zyx295r zyh338) 0 (zargs 0 zyx295a, [], (zyh338.1, zyh338.2.1, 0), 0, 0) = true := zall_ok zyg14_ok (k := 1) (a := zbzyx295e) rfl
theorem zyx295 {l : Launch} {D : va_G} {tys : List (ClassId × FieldType)} {o : zO} {z : Nat} (E : zEnv tys) : zKnW l D vwCl tys o z (zXX o z) zTs zprog2 zyx295d :=
  zkn_mk E (fun g => fun _ h => absurd h List.not_mem_nil) (show zget zprog2 232 = some mX8_hoursOf from rfl) rfl (by decide) (by decide) (by decide) (by decide) (G := [zyx295q0]) (List.forall_mem_cons.mpr ⟨zyx295_k0 E, fun _ h => absurd h List.not_mem_nil⟩) zyx295e
theorem zyx296e : zrunw zprog2 (zovW [zyx295d]) 100000 (zcutW [] none ((zyx296r, zyh339), 4, 480) []) 4 480 k2X8_rider (zkin zyx296r zyh339) 0 (zargs 0 zyx296a, [], (zyh2.1, zyh2.2.1, 0), 0, 0) = true := zall_ok zyg14_ok (k := 2) (a := zbzyx296e) rfl
theorem zyx296 {l : Launch} {D : va_G} {tys : List (ClassId × FieldType)} {o : zO} {z : Nat} (E : zEnv tys) : zKnW l D vwCl tys o z (zXX o z) zTs zprog2 zyx296d :=
  zkn_mk E (fun g => List.forall_mem_cons.mpr ⟨zyx295 (o := zwith o g) E, fun _ h => absurd h List.not_mem_nil⟩) (show zget zprog2 271 = some m2X8_rider from rfl) rfl (by decide) (by decide) (by decide) (by decide) (G := []) (fun _ h => absurd h List.not_mem_nil) zyx296e
theorem zyx297e : zrunw zprog2 (zovW []) 100000 (zcutW [] none ((zyx297r, zyh340), 2, 300) []) 2 300 k2J6_bitCount_0f7a4 (zkin zyx297r zyh340) 0 (zargs 0 zyx297a, [], (zyh340.1, zyh340.2.1, 0), 0, 0) = true := zall_ok zyg14_ok (k := 3) (a := zbzyx297e) rfl
theorem zyx297 {l : Launch} {D : va_G} {tys : List (ClassId × FieldType)} {o : zO} {z : Nat} (E : zEnv tys) : zKnW l D vwCl tys o z (zXX o z) zTs zprog2 zyx297d :=
  zkn_mk E (fun g => fun _ h => absurd h List.not_mem_nil) (show zget zprog2 14 = some m2J6_bitCount_0f7a4 from rfl) rfl (by decide) (by decide) (by decide) (by decide) (G := []) (fun _ h => absurd h List.not_mem_nil) zyx297e
theorem zyx298c0 : zchkX [] zprog2 (zovW []) 100000 k2X3_value [] [zyx298q0] [zyx298q0] = true := zall_ok zyg14_ok (k := 4) (a := zbzyx298c0) rfl
theorem zyx298_k0 {l : Launch} {D : va_G} {tys : List (ClassId × FieldType)} {o : zO} {z : Nat} (E : zEnv tys) : zPtOk l D vwCl tys o z (zXX o z) zTs m2X3_value zyx298q0 := zkn_pt E (fun g => fun _ h => absurd h List.not_mem_nil) (show zget zprog2 58 = some m2X3_value from rfl) (fun _ h => absurd h List.not_mem_nil) zyx298c0 _ (List.mem_of_getElem? (i := 0) rfl)
theorem zyx298e : zrunw zprog2 (zovW []) 100000 (zcutW [] none ((zyx298r, zyh341), 3, 420) [zyx298q0]) 3 420 k2X3_value (zkin zyx298r zyh341) 0 (zargs 0 zyx298a, [], (zyh0.1, zyh0.2.1, 0), 0, 0) = true := zall_ok zyg14_ok (k := 5) (a := zbzyx298e) rfl
theorem zyx298 {l : Launch} {D : va_G} {tys : List (ClassId × FieldType)} {o : zO} {z : Nat} (E : zEnv tys) : zKnW l D vwCl tys o z (zXX o z) zTs zprog2 zyx298d :=
  zkn_mk E (fun g => fun _ h => absurd h List.not_mem_nil) (show zget zprog2 58 = some m2X3_value from rfl) rfl (by decide) (by decide) (by decide) (by decide) (G := [zyx298q0]) (List.forall_mem_cons.mpr ⟨zyx298_k0 E, fun _ h => absurd h List.not_mem_nil⟩) zyx298e

