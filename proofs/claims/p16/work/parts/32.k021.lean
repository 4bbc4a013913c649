noncomputable def zyc424 : zC := .inr (8, [zyv117, zyv26, zyv27, zyv25, zyv118, zyv119, zyv120, zyv121, zyv17, zyv122, zyv25, zyv128, zyv114, zyv17, zyv123, zyv123, zyv124, zyv125, zyv126, zyv127, zyv35, zyv128, zyv129, zyv130, zyv13, zyv131, zyv132, zyv18, zyv18, zyv133, zyv134, zyv135, zyv136, zyv137, zyv138, zyv139, zyv140, zyv141, zyv142, zyv15, zyv144, zyv145, zyv146, zyv147, zyv15, zyv13, zyv15, zyv15, zyv148, zyv149, zyv150])
noncomputable def zyr354 : List zC := [zyc60, zyc60, zyc60, zyc69, zyc10, zyc10, zyc10, zyc12, zyc70, zyc8, zyc8, zyc70, zyc8, zyc8, zyc424, zyc78]
noncomputable def zyr355 : List zC := [zyc79, zyc79, zyc8, zyc80, zyc54, zyc81, zyc56, zyc56, zyc57, zyc58, zyc78, zyc78, zyc8, zyc8, zyc83, zyc4]
noncomputable def zyr356 : List zC := [zyc4, zyc4, zyc4, zyc84, zyc85, zyc40, zyc86, zyc43, zyc46, zyc46, zyc61, zyc33, zyc62, zyc63, zycF, zycF]
noncomputable def zyh1360 : zH := (126, [zyr9, zyr10, zyr11, zyr12, zyr13, zyr354, zyr355, zyr356], 0)
def zym11 : Nat := 203134582951711704646121148769278015878417079753900997875920111225590861052170742460198519740929109493539422839476978984437130967740453593263577484948082959630347955776705678606434911065424123710323064165279572854867874420878811952841381948195571507011692716849293617071459130731424085462904015708780391791656661847098782330357723005150453500332156398863394224704795742619598926032155834837377695675960193742303007269908904802236531460151974655767656765012423218000798184699628790082717463834346122217589104499301372576340035168096047419739689742288166393103103053504826714622534888636740948740914879563777721014501745405531862449380972840942964164737831831458981611579312786392057229570322876652685894704965719300018453012236396621654621081330307199980823138246225864332822713772885443647759304834133496316899066243583477212959947970449813365929507239021923742197749211585904851187163926409959926099819298376560103780114793211831178166942577443850071535980995761039072041278369233223796063675796291719389461711004032162828258777606335620392322102950842911506773914480516948684741733594980678927568749035270310457430405096822464565889871407092515670107497167957054956801366944326296792898955191773327314121083572003295917270986485081282722271915499265754274250075277235715340640681288083657495790757897558877344714372566961276601397291969622340618276227536986269192559840522553718971802699432212620351169695708628554669640454379633043058325027009600185138568392673461707552053964535632234865057999083878886031878901694937836367985850899363462756882962111382379624425827830555454125767789663503093050443147191277974145659318942086052446884790797249544661311527380817615162884648406569358873574637572716995177517868866719474826379970356704458473532716586002764629545222913281216461041413210992366041779485834087497728
noncomputable def zyh1361 : zH := (126, [zyr9, zyr10, zyr11, zyr12, zyr13, zyr14, zyr15, zyr16], zym11)
noncomputable def zyr357 : List zC := [zyc60, zyc60, zyc60, zyc69, zyc10, zyc10, zyc10, zyc12, zyc70, zyc8, zyc8, zyc70, zyc8, zyc8, zyc51, zyc52]
noncomputable def zyh1362 : zH := (126, [zyr9, zyr10, zyr11, zyr12, zyr13, zyr357, zyr6, zyr7], 0)
def zym12 : Nat := 28638903918474961204418783933674838490721739172170652529441449702311064005352904159345284265824628375429359509218999720074396860757073376700445026041564579620512874307979212102266801261478978776245040008231745247475930553606737583615358787106474295296
noncomputable def zyh1363 : zH := (126, [zyr0, zyr1, zyr2, zyr3, zyr4, zyr5, zyr6, zyr7], zym12)
/-! X8_hoursOf -/
noncomputable def zyx302a : List zAV := [.inr (.inr (.inl 94)), .inr (.inr (.inl 95)), .inl ((.ofNat 0, .ofNat 7), none)]
def zyx302r : Option zAV := some (.inl ((.ofNat 0, .ofNat 255), none))
noncomputable def zyx302q0 : zPw := ((5, ([(0, .inr (.inr (.inl 94))), (1, .inr (.inr (.inl 95))), (2, .inl ((.ofNat 0, .ofNat 7), some (2, .ofNat 0))), (3, .inl ((.ofNat 0, .ofNat 255), some (3, .ofNat 0))), (4, .inl ((.ofNat 0, .ofNat 8), some (4, .ofNat 0)))], [], zyh1360, 0, 0), [(4, .negSucc 1)], .ofNat 17), (zyx302r, zyh1360), 2, 300)
noncomputable def zbzyx302c0 : Bool := zchkX [] zprog2 (zovW []) 100000 kX8_hoursOf [] [zyx302q0] [zyx302q0]
noncomputable def zyx302d : zKw := (232, 5, 2, 300, zyx302a, zyh1360, [(zyx302r, zyh1360)])
noncomputable def zbzyx302e : Bool := zrunw zprog2 (zovW []) 100000 (zcutW [] none ((zyx302r, zyh1360), 2, 300) [zyx302q0]) 2 300 kX8_hoursOf (zkin zyx302r zyh1360) 0 (zargs 0 zyx302a, [], (zyh1360.1, zyh1360.2.1, 0), 0, 0)
/-! X8_rider -/
noncomputable def zyx303a : List zAV := [.inr (.inr (.inl 94)), .inl ((.negSucc 2147483647, .ofNat 2147483647), none), .inl ((.negSucc 2147483647, .ofNat 2147483647), none)]
def zyx303r : Option zAV := some (.inl ((.negSucc 2147483647, .ofNat 2147483647), none))
noncomputable def zyx303d : zKw := (271, 3, 4, 480, zyx303a, zyh2, [(zyx303r, zyh1361)])
noncomputable def zbzyx303e : Bool := zrunw zprog2 (zovW [zyx302d]) 100000 (zcutW [] none ((zyx303r, zyh1361), 4, 480) []) 4 480 k2X8_rider (zkin zyx303r zyh1361) 0 (zargs 0 zyx303a, [], (zyh2.1, zyh2.2.1, 0), 0, 0)
/-! J6_bitCount_0f7a4 -/
noncomputable def zyx304a : List zAV := [.inl ((.ofNat 0, .ofNat 255), none)]
def zyx304r : Option zAV := some (.inl ((.ofNat 0, .ofNat 8), none))
noncomputable def zyx304d : zKw := (14, 1, 2, 300, zyx304a, zyh1362, [(zyx304r, zyh1362)])
noncomputable def zbzyx304e : Bool := zrunw zprog2 (zovW []) 100000 (zcutW [] none ((zyx304r, zyh1362), 2, 300) []) 2 300 k2J6_bitCount_0f7a4 (zkin zyx304r zyh1362) 0 (zargs 0 zyx304a, [], (zyh1362.1, zyh1362.2.1, 0), 0, 0)
/-! X3_value -/
noncomputable def zyx305a : List zAV := [.inr (.inr (.inl 10)), .inr (.inr (.inl 7))]
def zyx305r : Option zAV := some (.inl ((.negSucc 2147483647, .ofNat 2147483647), none))
noncomputable def zyx305q0 : zPw := ((4, ([(0, .inr (.inr (.inl 10))), (1, .inr (.inr (.inl 7))), (2, .inl ((.ofNat 0, .ofNat 40), some (2, .ofNat 0))), (3, .inl ((.ofNat 0, .ofNat 40), some (3, .ofNat 0)))], [], zyh1363, 0, 0), [(3, .negSucc 1)], .ofNat 81), (zyx305r, zyh1363), 3, 420)
noncomputable def zbzyx305c0 : Bool := zchkX [] zprog2 (zovW []) 100000 k2X3_value [] [zyx305q0] [zyx305q0]
noncomputable def zyx305d : zKw := (58, 5, 3, 420, zyx305a, zyh0, [(zyx305r, zyh1363)])
noncomputable def zbzyx305e : Bool := zrunw zprog2 (zovW []) 100000 (zcutW [] none ((zyx305r, zyh1363), 3, 420) [zyx305q0]) 3 420 k2X3_value (zkin zyx305r zyh1363) 0 (zargs 0 zyx305a, [], (zyh0.1, zyh0.2.1, 0), 0, 0)
noncomputable def zyg21 : List Bool := [zbzyx302c0, zbzyx302e, zbzyx303e, zbzyx304e, zbzyx305c0, zbzyx305e]
set_option maxRecDepth 100000 in
theorem zyg21_ok : zall (fun b => b) zyg21 = true := by decide +kernel
theorem zyx302c0 : zchkX [] zprog2 (zovW []) 100000 kX8_hoursOf [] [zyx302q0] [zyx302q0] = true := zall_ok zyg21_ok (k := 0) (a := zbzyx302c0) rfl
theorem zyx302_k0 {l : Launch} {D : va_G} {tys : List (ClassId × FieldType)} {o : zO} {z : Nat} (E : zEnv tys) : zPtOk l D vwCl tys o z (zXX o z) zTs mX8_hoursOf zyx302q0 := zkn_pt E (fun g => fun _ h => absurd h List.not_mem_nil) (show zget zprog2 232 = some mX8_hoursOf from rfl) (fun _ h => absurd h List.not_mem_nil) zyx302c0 _ (List.mem_of_getElem? (i := 0) rfl)
theorem zyx302e : zrunw zprog2 (zovW []) 100000 (zcutW [] none ((zyx302r, zyh1360), 2, 300) [zyx302q0]) 2 300 kX8_hoursOf (zkin zyx302r zyh1360) 0 (zargs 0 zyx302a, [], (zyh1360.1, zyh1360.2.1, 0), 0, 0) = true := zall_ok zyg21_ok (k := 1) (a := zbzyx302e) rfl
theorem zyx302 {l : Launch} {D : va_G} {tys : List (ClassId × FieldType)} {o : zO} {z : Nat} (E : zEnv tys) : zKnW l D vwCl tys o z (zXX o z) zTs zprog2 zyx302d :=
  zkn_mk E (fun g => fun _ h => absurd h List.not_mem_nil) (show zget zprog2 232 = some mX8_hoursOf from rfl) rfl (by decide) (by decide) (by decide) (by decide) (G := [zyx302q0]) (List.forall_mem_cons.mpr ⟨zyx302_k0 E, fun _ h => absurd h List.not_mem_nil⟩) zyx302e
theorem zyx303e : zrunw zprog2 (zovW [zyx302d]) 100000 (zcutW [] none ((zyx303r, zyh1361), 4, 480) []) 4 480 k2X8_rider (zkin zyx303r zyh1361) 0 (zargs 0 zyx303a, [], (zyh2.1, zyh2.2.1, 0), 0, 0) = true := zall_ok zyg21_ok (k := 2) (a := zbzyx303e) rfl
theorem zyx303 {l : Launch} {D : va_G} {tys : List (ClassId × FieldType)} {o : zO} {z : Nat} (E : zEnv tys) : zKnW l D vwCl tys o z (zXX o z) zTs zprog2 zyx303d :=
  zkn_mk E (fun g => List.forall_mem_cons.mpr ⟨zyx302 (o := zwith o g) E, fun _ h => absurd h List.not_mem_nil⟩) (show zget zprog2 271 = some m2X8_rider from rfl) rfl (by decide) (by decide) (by decide) (by decide) (G := []) (fun _ h => absurd h List.not_mem_nil) zyx303e
theorem zyx304e : zrunw zprog2 (zovW []) 100000 (zcutW [] none ((zyx304r, zyh1362), 2, 300) []) 2 300 k2J6_bitCount_0f7a4 (zkin zyx304r zyh1362) 0 (zargs 0 zyx304a, [], (zyh1362.1, zyh1362.2.1, 0), 0, 0) = true := zall_ok zyg21_ok (k := 3) (a := zbzyx304e) rfl
theorem zyx304 {l : Launch} {D : va_G} {tys : List (ClassId × FieldType)} {o : zO} {z : Nat} (E : zEnv tys) : zKnW l D vwCl tys o z (zXX o z) zTs zprog2 zyx304d :=
  zkn_mk E (fun g => fun _ h => absurd h List.not_mem_nil) (show zget zprog2 14 = some m2J6_bitCount_0f7a4 from rfl) rfl (by decide) (by decide) (by decide) (by decide) (G := []) (fun _ h => absurd h List.not_mem_nil) zyx304e
theorem zyx305c0 : zchkX [] zprog2 (zovW []) 100000 k2X3_value [] [zyx305q0] [zyx305q0] = true := zall_ok zyg21_ok (k := 4) (a := zbzyx305c0) rfl
theorem zyx305_k0 {l : Launch} {D : va_G} {tys : List (ClassId × FieldType)} {o : zO} {z : Nat} (E : zEnv tys) : zPtOk l D vwCl tys o z (zXX o z) zTs m2X3_value zyx305q0 := zkn_pt E (fun g => fun _ h => absurd h List.not_mem_nil) (show zget zprog2 58 = some m2X3_value from rfl) (fun _ h => absurd h List.not_mem_nil) zyx305c0 _ (List.mem_of_getElem? (i := 0) rfl)
theorem zyx305e : zrunw zprog2 (zovW []) 100000 (zcutW [] none ((zyx305r, zyh1363), 3, 420) [zyx305q0]) 3 420 k2X3_value (zkin zyx305r zyh1363) 0 (zargs 0 zyx305a, [], (zyh0.1, zyh0.2.1, 0), 0, 0) = true := zall_ok zyg21_ok (k := 5) (a := zbzyx305e) rfl
theorem zyx305 {l : Launch} {D : va_G} {tys : List (ClassId × FieldType)} {o : zO} {z : Nat} (E : zEnv tys) : zKnW l D vwCl tys o z (zXX o z) zTs zprog2 zyx305d :=
  zkn_mk E (fun g => fun _ h => absurd h List.not_mem_nil) (show zget zprog2 58 = some m2X3_value from rfl) rfl (by decide) (by decide) (by decide) (by decide) (G := [zyx305q0]) (List.forall_mem_cons.mpr ⟨zyx305_k0 E, fun _ h => absurd h List.not_mem_nil⟩) zyx305e

