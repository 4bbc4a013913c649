noncomputable def zyc895 : zC := .inr (8, [zyv120, zyv15, zyv15, zyv15, zyv120, zyv120, zyv120, zyv120, zyv15, zyv120, zyv15, zyv15, zyv125, zyv17, zyv319, zyv354, zyv17, zyv120, zyv120, zyv120, zyv15, zyv36, zyv127, zyv120, zyv15, zyv120, zyv120, zyv15, zyv15, zyv120, zyv120, zyv120, zyv120, zyv120, zyv120, zyv120, zyv120, zyv120, zyv120, zyv15, zyv120, zyv120, zyv120, zyv120, zyv15, zyv15, zyv15, zyv15, zyv120, zyv120, zyv120])
noncomputable def zyr816 : List zC := [zyc248, zyc248, zyc248, zyc240, zyc10, zyc10, zyc10, zyc12, zyc241, zyc8, zyc8, zyc241, zyc8, zyc8, zyc895, zyc250]
noncomputable def zyh1220 : zH := (126, [zyr178, zyr179, zyr180, zyr181, zyr182, zyr816, zyr184, zyr185], zym11)
noncomputable def zyh1221 : zH := (126, [zyr178, zyr179, zyr180, zyr181, zyr182, zyr793, zyr184, zyr185], zym11)
noncomputable def zyh1222 : zH := (126, [zyr178, zyr179, zyr180, zyr181, zyr182, zyr792, zyr184, zyr185], zym11)
noncomputable def zyc896 : zC := .inr (8, [zyv120, zyv15, zyv15, zyv15, zyv120, zyv120, zyv120, zyv120, zyv15, zyv120, zyv15, zyv15, zyv125, zyv17, zyv319, zyv353, zyv17, zyv120, zyv120, zyv120, zyv15, zyv36, zyv127, zyv120, zyv15, zyv120, zyv120, zyv15, zyv15, zyv120, zyv120, zyv120, zyv120, zyv120, zyv120, zyv120, zyv120, zyv120, zyv120, zyv15, zyv120, zyv120, zyv120, zyv120, zyv15, zyv15, zyv15, zyv15, zyv120, zyv120, zyv120])
noncomputable def zyr817 : List zC := [zyc248, zyc248, zyc248, zyc240, zyc10, zyc10, zyc10, zyc12, zyc241, zyc8, zyc8, zyc241, zyc8, zyc8, zyc896, zyc250]
noncomputable def zyh1223 : zH := (126, [zyr178, zyr179, zyr180, zyr181, zyr182, zyr817, zyr184, zyr185], zym11)
noncomputable def zyh1224 : zH := (126, [zyr178, zyr179, zyr180, zyr181, zyr182, zyr791, zyr184, zyr185], zym11)
noncomputable def zyh1225 : zH := (126, [zyr178, zyr179, zyr180, zyr181, zyr182, zyr790, zyr184, zyr185], zym11)
noncomputable def zyc897 : zC := .inr (8, [zyv120, zyv15, zyv15, zyv15, zyv120, zyv120, zyv120, zyv120, zyv15, zyv120, zyv15, zyv15, zyv125, zyv17, zyv319, zyv352, zyv17, zyv120, zyv120, zyv120, zyv15, zyv36, zyv127, zyv120, zyv15, zyv120, zyv120, zyv15, zyv15, zyv120, zyv120, zyv120, zyv120, zyv120, zyv120, zyv120, zyv120, zyv120, zyv120, zyv15, zyv120, zyv120, zyv120, zyv120, zyv15, zyv15, zyv15, zyv15, zyv120, zyv120, zyv120])
noncomputable def zyr818 : List zC := [zyc248, zyc248, zyc248, zyc240, zyc10, zyc10, zyc10, zyc12, zyc241, zyc8, zyc8, zyc241, zyc8, zyc8, zyc897, zyc250]
noncomputable def zyh1226 : zH := (126, [zyr178, zyr179, zyr180, zyr181, zyr182, zyr818, zyr184, zyr185], zym11)
noncomputable def zyh1227 : zH := (126, [zyr178, zyr179, zyr180, zyr181, zyr182, zyr789, zyr184, zyr185], zym11)
noncomputable def zyh1228 : zH := (126, [zyr178, zyr179, zyr180, zyr181, zyr182, zyr788, zyr184, zyr185], zym11)
noncomputable def zyc898 : zC := .inr (8, [zyv120, zyv15, zyv15, zyv15, zyv120, zyv120, zyv120, zyv120, zyv15, zyv120, zyv15, zyv15, zyv125, zyv17, zyv319, zyv351, zyv17, zyv120, zyv120, zyv120, zyv15, zyv36, zyv127, zyv120, zyv15, zyv120, zyv120, zyv15, zyv15, zyv120, zyv120, zyv120, zyv120, zyv120, zyv120, zyv120, zyv120, zyv120, zyv120, zyv15, zyv120, zyv120, zyv120, zyv120, zyv15, zyv15, zyv15, zyv15, zyv120, zyv120, zyv120])
noncomputable def zyr819 : List zC := [zyc248, zyc248, zyc248, zyc240, zyc10, zyc10, zyc10, zyc12, zyc241, zyc8, zyc8, zyc241, zyc8, zyc8, zyc898, zyc250]
noncomputable def zyh1229 : zH := (126, [zyr178, zyr179, zyr180, zyr181, zyr182, zyr819, zyr184, zyr185], zym11)
noncomputable def zyh1230 : zH := (126, [zyr178, zyr179, zyr180, zyr181, zyr182, zyr787, zyr184, zyr185], zym11)
noncomputable def zyh1231 : zH := (126, [zyr178, zyr179, zyr180, zyr181, zyr182, zyr786, zyr184, zyr185], zym11)
noncomputable def zyc899 : zC := .inr (8, [zyv120, zyv15, zyv15, zyv15, zyv120, zyv120, zyv120, zyv120, zyv15, zyv120, zyv15, zyv15, zyv125, zyv17, zyv319, zyv350, zyv17, zyv120, zyv120, zyv120, zyv15, zyv36, zyv127, zyv120, zyv15, zyv120, zyv120, zyv15, zyv15, zyv120, zyv120, zyv120, zyv120, zyv120, zyv120, zyv120, zyv120, zyv120, zyv120, zyv15, zyv120, zyv120, zyv120, zyv120, zyv15, zyv15, zyv15, zyv15, zyv120, zyv120, zyv120])
noncomputable def zyr820 : List zC := [zyc248, zyc248, zyc248, zyc240, zyc10, zyc10, zyc10, zyc12, zyc241, zyc8, zyc8, zyc241, zyc8, zyc8, zyc899, zyc250]
noncomputable def zyh1232 : zH := (126, [zyr178, zyr179, zyr180, zyr181, zyr182, zyr820, zyr184, zyr185], zym11)
noncomputable def zyh1233 : zH := (126, [zyr178, zyr179, zyr180, zyr181, zyr182, zyr785, zyr184, zyr185], zym11)
noncomputable def zyh1234 : zH := (126, [zyr178, zyr179, zyr180, zyr181, zyr182, zyr784, zyr184, zyr185], zym11)
noncomputable def zyc900 : zC := .inr (8, [zyv120, zyv15, zyv15, zyv15, zyv120, zyv120, zyv120, zyv120, zyv15, zyv120, zyv15, zyv15, zyv125, zyv17, zyv319, zyv349, zyv17, zyv120, zyv120, zyv120, zyv15, zyv36, zyv127, zyv120, zyv15, zyv120, zyv120, zyv15, zyv15, zyv120, zyv120, zyv120, zyv120, zyv120, zyv120, zyv120, zyv120, zyv120, zyv120, zyv15, zyv120, zyv120, zyv120, zyv120, zyv15, zyv15, zyv15, zyv15, zyv120, zyv120, zyv120])
noncomputable def zyr821 : List zC := [zyc248, zyc248, zyc248, zyc240, zyc10, zyc10, zyc10, zyc12, zyc241, zyc8, zyc8, zyc241, zyc8, zyc8, zyc900, zyc250]
noncomputable def zyh1235 : zH := (126, [zyr178, zyr179, zyr180, zyr181, zyr182, zyr821, zyr184, zyr185], zym11)
noncomputable def zyh1236 : zH := (126, [zyr178, zyr179, zyr180, zyr181, zyr182, zyr783, zyr184, zyr185], zym11)
noncomputable def zyh1237 : zH := (126, [zyr178, zyr179, zyr180, zyr181, zyr182, zyr782, zyr184, zyr185], zym11)
noncomputable def zyc901 : zC := .inr (8, [zyv120, zyv15, zyv15, zyv15, zyv120, zyv120, zyv120, zyv120, zyv15, zyv120, zyv15, zyv15, zyv125, zyv17, zyv319, zyv348, zyv17, zyv120, zyv120, zyv120, zyv15, zyv36, zyv127, zyv120, zyv15, zyv120, zyv120, zyv15, zyv15, zyv120, zyv120, zyv120, zyv120, zyv120, zyv120, zyv120, zyv120, zyv120, zyv120, zyv15, zyv120, zyv120, zyv120, zyv120, zyv15, zyv15, zyv15, zyv15, zyv120, zyv120, zyv120])
noncomputable def zyr822 : List zC := [zyc248, zyc248, zyc248, zyc240, zyc10, zyc10, zyc10, zyc12, zyc241, zyc8, zyc8, zyc241, zyc8, zyc8, zyc901, zyc250]
noncomputable def zyh1238 : zH := (126, [zyr178, zyr179, zyr180, zyr181, zyr182, zyr822, zyr184, zyr185], zym11)
noncomputable def zyh1239 : zH := (126, [zyr178, zyr179, zyr180, zyr181, zyr182, zyr781, zyr184, zyr185], zym11)
noncomputable def zyh1240 : zH := (126, [zyr178, zyr179, zyr180, zyr181, zyr182, zyr780, zyr184, zyr185], zym11)
noncomputable def zyc902 : zC := .inr (8, [zyv120, zyv15, zyv15, zyv15, zyv120, zyv120, zyv120, zyv120, zyv15, zyv120, zyv15, zyv15, zyv125, zyv17, zyv319, zyv347, zyv17, zyv120, zyv120, zyv120, zyv15, zyv36, zyv127, zyv120, zyv15, zyv120, zyv120, zyv15, zyv15, zyv120, zyv120, zyv120, zyv120, zyv120, zyv120, zyv120, zyv120, zyv120, zyv120, zyv15, zyv120, zyv120, zyv120, zyv120, zyv15, zyv15, zyv15, zyv15, zyv120, zyv120, zyv120])
noncomputable def zyr823 : List zC := [zyc248, zyc248, zyc248, zyc240, zyc10, zyc10, zyc10, zyc12, zyc241, zyc8, zyc8, zyc241, zyc8, zyc8, zyc902, zyc250]
noncomputable def zyh1241 : zH := (126, [zyr178, zyr179, zyr180, zyr181, zyr182, zyr823, zyr184, zyr185], zym11)
noncomputable def zyh1242 : zH := (126, [zyr178, zyr179, zyr180, zyr181, zyr182, zyr779, zyr184, zyr185], zym11)
noncomputable def zyh1243 : zH := (126, [zyr178, zyr179, zyr180, zyr181, zyr182, zyr778, zyr184, zyr185], zym11)
noncomputable def zyc903 : zC := .inr (8, [zyv120, zyv15, zyv15, zyv15, zyv120, zyv120, zyv120, zyv120, zyv15, zyv120, zyv15, zyv15, zyv125, zyv17, zyv319, zyv346, zyv17, zyv120, zyv120, zyv120, zyv15, zyv36, zyv127, zyv120, zyv15, zyv120, zyv120, zyv15, zyv15, zyv120, zyv120, zyv120, zyv120, zyv120, zyv120, zyv120, zyv120, zyv120, zyv120, zyv15, zyv120, zyv120, zyv120, zyv120, zyv15, zyv15, zyv15, zyv15, zyv120, zyv120, zyv120])
noncomputable def zyr824 : List zC := [zyc248, zyc248, zyc248, zyc240, zyc10, zyc10, zyc10, zyc12, zyc241, zyc8, zyc8, zyc241, zyc8, zyc8, zyc903, zyc250]
noncomputable def zyh1244 : zH := (126, [zyr178, zyr179, zyr180, zyr181, zyr182, zyr824, zyr184, zyr185], zym11)
noncomputable def zyh1245 : zH := (126, [zyr178, zyr179, zyr180, zyr181, zyr182, zyr777, zyr184, zyr185], zym11)
noncomputable def zyh1246 : zH := (126, [zyr178, zyr179, zyr180, zyr181, zyr182, zyr776, zyr184, zyr185], zym11)
noncomputable def zyc904 : zC := .inr (8, [zyv120, zyv15, zyv15, zyv15, zyv120, zyv120, zyv120, zyv120, zyv15, zyv120, zyv15, zyv15, zyv125, zyv17, zyv319, zyv345, zyv17, zyv120, zyv120, zyv120, zyv15, zyv36, zyv127, zyv120, zyv15, zyv120, zyv120, zyv15, zyv15, zyv120, zyv120, zyv120, zyv120, zyv120, zyv120, zyv120, zyv120, zyv120, zyv120, zyv15, zyv120, zyv120, zyv120, zyv120, zyv15, zyv15, zyv15, zyv15, zyv120, zyv120, zyv120])
noncomputable def zyr825 : List zC := [zyc248, zyc248, zyc248, zyc240, zyc10, zyc10, zyc10, zyc12, zyc241, zyc8, zyc8, zyc241, zyc8, zyc8, zyc904, zyc250]
noncomputable def zyh1247 : zH := (126, [zyr178, zyr179, zyr180, zyr181, zyr182, zyr825, zyr184, zyr185], zym11)
noncomputable def zyh1248 : zH := (126, [zyr178, zyr179, zyr180, zyr181, zyr182, zyr775, zyr184, zyr185], zym11)
noncomputable def zyh1249 : zH := (126, [zyr178, zyr179, zyr180, zyr181, zyr182, zyr774, zyr184, zyr185], zym11)
/-! X8_product ((('r', 103), 40, 33),) -/
noncomputable def zyx864a : List zAV := [.inr (.inr (.inl 94)), .inl ((.ofNat 0, .ofNat 4), none)]
def zyx864r : Option zAV := some (.inl ((.negSucc 2147483647, .ofNat 2147483647), none))
noncomputable def zyx864q : zPw := ((6, ([(0, .inr (.inr (.inl 94))), (1, .inl ((.ofNat 0, .ofNat 4), some (1, .ofNat 0))), (2, .inl ((.negSucc 2147483647, .ofNat 2147483647), some (2, .ofNat 0)))], [], zyh1219, 0, 0), [], 0), (zyx864r, zyh1219), 33, 4020)
set_option maxRecDepth 100000 in
theorem zyx864c : zchkX [(94, 15)] zprog2 (zovW [zyx863d, zyx857d]) 100000 k2X8_product [zyx858q, zyx852q, zyx846q, zyx840q, zyx834q, zyx828q, zyx822q] [zyx864q] [zyx864q] = true := by decide +kernel
theorem zyx864k {l : Launch} {D : va_G} {tys : List (ClassId × FieldType)} {o : zO} {z : Nat} (E : zEnv tys) : zPtOk l D vwCl tys o z (zXX o z) zTs m2X8_product zyx864q := zkn_pt E (fun g => List.forall_mem_cons.mpr ⟨zyx863 (o := zwith o g) E, List.forall_mem_cons.mpr ⟨zyx857 (o := zwith o g) E, fun _ h => absurd h List.not_mem_nil⟩⟩) (show zget zprog2 265 = some m2X8_product from rfl) (List.forall_mem_cons.mpr ⟨zyx858k E, List.forall_mem_cons.mpr ⟨zyx852k E, List.forall_mem_cons.mpr ⟨zyx846k E, List.forall_mem_cons.mpr ⟨zyx840k E, List.forall_mem_cons.mpr ⟨zyx834k E, List.forall_mem_cons.mpr ⟨zyx828k E, List.forall_mem_cons.mpr ⟨zyx822k E, fun _ h => absurd h List.not_mem_nil⟩⟩⟩⟩⟩⟩⟩) zyx864c _ List.mem_cons_self
noncomputable def zyx864d : zKw := (265, 5, 33, 4020, zyx864a, zyh1176, [(zyx864r, zyh1219)])
set_option maxRecDepth 100000 in
theorem zyx864e : zrunw zprog2 (zovW [zyx863d, zyx857d]) 100000 (zcutW [(94, 15)] none ((zyx864r, zyh1219), 33, 4020) [zyx864q, zyx858q, zyx852q, zyx846q, zyx840q, zyx834q, zyx828q, zyx822q]) 33 4020 k2X8_product (zkin zyx864r zyh1219) 0 (zargs 0 zyx864a, [], (zyh1176.1, zyh1176.2.1, 0), 0, 0) = true := by decide +kernel
theorem zyx864 {l : Launch} {D : va_G} {tys : List (ClassId × FieldType)} {o : zO} {z : Nat} (E : zEnv tys) : zKnW l D vwCl tys o z (zXX o z) zTs zprog2 zyx864d :=
  zkn_mk E (fun g => List.forall_mem_cons.mpr ⟨zyx863 (o := zwith o g) E, List.forall_mem_cons.mpr ⟨zyx857 (o := zwith o g) E, fun _ h => absurd h List.not_mem_nil⟩⟩) (show zget zprog2 265 = some m2X8_product from rfl) rfl (by decide) (by decide) (by decide) (by decide) (G := [zyx864q, zyx858q, zyx852q, zyx846q, zyx840q, zyx834q, zyx828q, zyx822q]) (List.forall_mem_cons.mpr ⟨zyx864k E, List.forall_mem_cons.mpr ⟨zyx858k E, List.forall_mem_cons.mpr ⟨zyx852k E, List.forall_mem_cons.mpr ⟨zyx846k E, List.forall_mem_cons.mpr ⟨zyx840k E, List.forall_mem_cons.mpr ⟨zyx834k E, List.forall_mem_cons.mpr ⟨zyx828k E, List.forall_mem_cons.mpr ⟨zyx822k E, fun _ h => absurd h List.not_mem_nil⟩⟩⟩⟩⟩⟩⟩⟩) zyx864e
/-! X8_sum ((('r', 103), 40, 33),) -/
noncomputable def zyx865a : List zAV := [.inr (.inr (.inl 94)), .inl ((.ofNat 1, .ofNat 4), none)]
def zyx865r : Option zAV := some (.inl ((.negSucc 2147483647, .ofNat 2147483647), none))
noncomputable def zyx865q : zPw := ((6, ([(0, .inr (.inr (.inl 94))), (1, .inl ((.ofNat 0, .ofNat 4), some (1, .ofNat 0))), (2, .inl ((.negSucc 2147483647, .ofNat 2147483647), some (2, .ofNat 0)))], [], zyh1219, 0, 0), [], 0), (zyx865r, zyh1219), 34, 4140)
set_option maxRecDepth 100000 in
theorem zyx865c : zchkX [(94, 15)] zprog2 (zovW [zyx864d, zyx858d]) 100000 kX8_sum [zyx859q, zyx853q, zyx847q, zyx841q, zyx835q, zyx829q, zyx823q] [zyx865q] [zyx865q] = true := by decide +kernel
theorem zyx865k {l : Launch} {D : va_G} {tys : List (ClassId × FieldType)} {o : zO} {z : Nat} (E : zEnv tys) : zPtOk l D vwCl tys o z (zXX o z) zTs mX8_sum zyx865q := zkn_pt E (fun g => List.forall_mem_cons.mpr ⟨zyx864 (o := zwith o g) E, List.forall_mem_cons.mpr ⟨zyx858 (o := zwith o g) E, fun _ h => absurd h List.not_mem_nil⟩⟩) (show zget zprog2 284 = some mX8_sum from rfl) (List.forall_mem_cons.mpr ⟨zyx859k E, List.forall_mem_cons.mpr ⟨zyx853k E, List.forall_mem_cons.mpr ⟨zyx847k E, List.forall_mem_cons.mpr ⟨zyx841k E, List.forall_mem_cons.mpr ⟨zyx835k E, List.forall_mem_cons.mpr ⟨zyx829k E, List.forall_mem_cons.mpr ⟨zyx823k E, fun _ h => absurd h List.not_mem_nil⟩⟩⟩⟩⟩⟩⟩) zyx865c _ List.mem_cons_self
noncomputable def zyx865d : zKw := (284, 5, 34, 4140, zyx865a, zyh1176, [(zyx865r, zyh1219)])
set_option maxRecDepth 100000 in
theorem zyx865e : zrunw zprog2 (zovW [zyx864d, zyx858d]) 100000 (zcutW [(94, 15)] none ((zyx865r, zyh1219), 34, 4140) [zyx865q, zyx859q, zyx853q, zyx847q, zyx841q, zyx835q, zyx829q, zyx823q]) 34 4140 kX8_sum (zkin zyx865r zyh1219) 0 (zargs 0 zyx865a, [], (zyh1176.1, zyh1176.2.1, 0), 0, 0) = true := by decide +kernel
theorem zyx865 {l : Launch} {D : va_G} {tys : List (ClassId × FieldType)} {o : zO} {z : Nat} (E : zEnv tys) : zKnW l D vwCl tys o z (zXX o z) zTs zprog2 zyx865d :=
  zkn_mk E (fun g => List.forall_mem_cons.mpr ⟨zyx864 (o := zwith o g) E, List.forall_mem_cons.mpr ⟨zyx858 (o := zwith o g) E, fun _ h => absurd h List.not_mem_nil⟩⟩) (show zget zprog2 284 = some mX8_sum from rfl) rfl (by decide) (by decide) (by decide) (by decide) (G := [zyx865q, zyx859q, zyx853q, zyx847q, zyx841q, zyx835q, zyx829q, zyx823q]) (List.forall_mem_cons.mpr ⟨zyx865k E, List.forall_mem_cons.mpr ⟨zyx859k E, List.forall_mem_cons.mpr ⟨zyx853k E, List.forall_mem_cons.mpr ⟨zyx847k E, List.forall_mem_cons.mpr ⟨zyx841k E, List.forall_mem_cons.mpr ⟨zyx835k E, List.forall_mem_cons.mpr ⟨zyx829k E, List.forall_mem_cons.mpr ⟨zyx823k E, fun _ h => absurd h List.not_mem_nil⟩⟩⟩⟩⟩⟩⟩⟩) zyx865e
/-! X8_heldBy -/
noncomputable def zyx866a : List zAV := [.inr (.inr (.inl 94)), .inl ((.ofNat 1, .ofNat 4), none)]
def zyx866r : Option zAV := some (.inl ((.negSucc 2147483647, .ofNat 2147483647), none))
noncomputable def zyx866p : List zPw := []
noncomputable def zyx866d : zKw := (229, 3, 35, 4260, zyx866a, zyh1176, [(zyx866r, zyh1219)])
set_option maxRecDepth 100000 in
theorem zyx866e : zrunw zprog2 (zovW [zyx865d, zyx859d, zyx813d]) 100000 (zcutW [] none ((zyx866r, zyh1219), 35, 4260) zyx866p) 35 4260 kX8_heldBy (zkin zyx866r zyh1219) 0 (zargs 0 zyx866a, [], (zyh1176.1, zyh1176.2.1, 0), 0, 0) = true := by decide +kernel
theorem zyx866 {l : Launch} {D : va_G} {tys : List (ClassId × FieldType)} {o : zO} {z : Nat} (E : zEnv tys) : zKnW l D vwCl tys o z (zXX o z) zTs zprog2 zyx866d :=
  zkn_mk E (fun g => List.forall_mem_cons.mpr ⟨zyx865 (o := zwith o g) E, List.forall_mem_cons.mpr ⟨zyx859 (o := zwith o g) E, List.forall_mem_cons.mpr ⟨zyx813 (o := zwith o g) E, fun _ h => absurd h List.not_mem_nil⟩⟩⟩) (show zget zprog2 229 = some mX8_heldBy from rfl) rfl (by decide) (by decide) (by decide) (by decide) (G := zyx866p) (fun _ h => absurd h List.not_mem_nil) zyx866e
/-! X8_oneOf -/
noncomputable def zyx867a : List zAV := [zyv320, zyv362, zyv363]
noncomputable def zyx867q : List (Option zAV × zH) := [(some (.inl ((.ofNat 0, .ofNat 0), none)), zyh1220), (some (.inl ((.negSucc 175, .ofNat 79), none)), zyh1221)]
noncomputable def zyx867d : zKw := (260, 3, 4, 480, zyx867a, zyh1173, zyx867q)
set_option maxRecDepth 100000 in
theorem zyx867e : zrunw zprog2 (zovW []) 100000 zcut0 4 480 kX8_oneOf (zkinL zyx867q) 0 (zargs 0 zyx867a, [], (zyh1173.1, zyh1173.2.1, 0), 0, 0) = true := by decide +kernel
theorem zyx867 {l : Launch} {D : va_G} {tys : List (ClassId × FieldType)} {o : zO} {z : Nat} (E : zEnv tys) : zKnW l D vwCl tys o z (zXX o z) zTs zprog2 zyx867d :=
  zkn_ml E (fun g => fun _ h => absurd h List.not_mem_nil) (show zget zprog2 260 = some mX8_oneOf from rfl) rfl (by decide) (by decide) (by decide) (by decide) zyx867e
/-! X8_number -/
noncomputable def zyx868a : List zAV := [.inr (.inr (.inl 94)), .inl ((.ofNat 3, .ofNat 3), none)]
def zyx868r : Option zAV := some (.inl ((.negSucc 2147483647, .ofNat 2147483647), none))
noncomputable def zyx868p : List zPw := [((11, ([(0, .inr (.inr (.inl 94))), (1, .inl ((.ofNat 3, .ofNat 3), some (1, .ofNat 0))), (2, .inl ((.negSucc 2147483647, .ofNat 2147483647), some (2, .ofNat 0))), (3, .inl ((.ofNat 1, .ofNat 3), some (3, .ofNat 0)))], [], zyh1222, 0, 0), [(3, .negSucc 1)], .ofNat 7), (zyx868r, zyh1222), 5, 600)]
noncomputable def zyx868d : zKw := (259, 4, 5, 600, zyx868a, zyh1173, [(zyx868r, zyh1222)])
set_option maxRecDepth 100000 in
theorem zyx868c : zchkX [] zprog2 (zovW [zyx867d]) 100000 kX8_number [] zyx868p zyx868p = true := by decide +kernel
set_option maxRecDepth 100000 in
theorem zyx868e : zrunw zprog2 (zovW [zyx867d]) 100000 (zcutW [] none ((zyx868r, zyh1222), 5, 600) zyx868p) 5 600 kX8_number (zkin zyx868r zyh1222) 0 (zargs 0 zyx868a, [], (zyh1173.1, zyh1173.2.1, 0), 0, 0) = true := by decide +kernel
theorem zyx868 {l : Launch} {D : va_G} {tys : List (ClassId × FieldType)} {o : zO} {z : Nat} (E : zEnv tys) : zKnW l D vwCl tys o z (zXX o z) zTs zprog2 zyx868d :=
  zkn_mk E (fun g => List.forall_mem_cons.mpr ⟨zyx867 (o := zwith o g) E, fun _ h => absurd h List.not_mem_nil⟩) (show zget zprog2 259 = some mX8_number from rfl) rfl (by decide) (by decide) (by decide) (by decide) (G := zyx868p) (zkn_pt E (fun g => List.forall_mem_cons.mpr ⟨zyx867 (o := zwith o g) E, fun _ h => absurd h List.not_mem_nil⟩) (show zget zprog2 259 = some mX8_number from rfl) (fun _ h => absurd h List.not_mem_nil) zyx868c) zyx868e
/-! X8_thing -/
noncomputable def zyx869a : List zAV := [.inr (.inr (.inl 94)), .inl ((.ofNat 0, .ofNat 4), none)]
def zyx869r : Option zAV := some (.inl ((.negSucc 2147483647, .ofNat 2147483647), none))
noncomputable def zyx869p : List zPw := []
noncomputable def zyx869d : zKw := (292, 4, 36, 4380, zyx869a, zyh1173, [(zyx869r, zyh1222)])
set_option maxRecDepth 100000 in
theorem zyx869e : zrunw zprog2 (zovW [zyx868d, zyx866d, zyx863d, zyx812d, zyx813d]) 100000 (zcutW [] none ((zyx869r, zyh1222), 36, 4380) zyx869p) 36 4380 k2X8_thing (zkin zyx869r zyh1222) 0 (zargs 0 zyx869a, [], (zyh1173.1, zyh1173.2.1, 0), 0, 0) = true := by decide +kernel
theorem zyx869 {l : Launch} {D : va_G} {tys : List (ClassId × FieldType)} {o : zO} {z : Nat} (E : zEnv tys) : zKnW l D vwCl tys o z (zXX o z) zTs zprog2 zyx869d :=
  zkn_mk E (fun g => List.forall_mem_cons.mpr ⟨zyx868 (o := zwith o g) E, List.forall_mem_cons.mpr ⟨zyx866 (o := zwith o g) E, List.forall_mem_cons.mpr ⟨zyx863 (o := zwith o g) E, List.forall_mem_cons.mpr ⟨zyx812 (o := zwith o g) E, List.forall_mem_cons.mpr ⟨zyx813 (o := zwith o g) E, fun _ h => absurd h List.not_mem_nil⟩⟩⟩⟩⟩) (show zget zprog2 292 = some m2X8_thing from rfl) rfl (by decide) (by decide) (by decide) (by decide) (G := zyx869p) (fun _ h => absurd h List.not_mem_nil) zyx869e
/-! X8_product ((('r', 103), 40, 32),) -/
noncomputable def zyx870a : List zAV := [.inr (.inr (.inl 94)), .inl ((.ofNat 0, .ofNat 4), none)]
def zyx870r : Option zAV := some (.inl ((.negSucc 2147483647, .ofNat 2147483647), none))
noncomputable def zyx870q : zPw := ((6, ([(0, .inr (.inr (.inl 94))), (1, .inl ((.ofNat 0, .ofNat 4), some (1, .ofNat 0))), (2, .inl ((.negSucc 2147483647, .ofNat 2147483647), some (2, .ofNat 0)))], [], zyh1222, 0, 0), [], 0), (zyx870r, zyh1222), 37, 4500)
set_option maxRecDepth 100000 in
theorem zyx870c : zchkX [(94, 15)] zprog2 (zovW [zyx869d, zyx863d]) 100000 k2X8_product [zyx864q, zyx858q, zyx852q, zyx846q, zyx840q, zyx834q, zyx828q, zyx822q] [zyx870q] [zyx870q] = true := by decide +kernel
theorem zyx870k {l : Launch} {D : va_G} {tys : List (ClassId × FieldType)} {o : zO} {z : Nat} (E : zEnv tys) : zPtOk l D vwCl tys o z (zXX o z) zTs m2X8_product zyx870q := zkn_pt E (fun g => List.forall_mem_cons.mpr ⟨zyx869 (o := zwith o g) E, List.forall_mem_cons.mpr ⟨zyx863 (o := zwith o g) E, fun _ h => absurd h List.not_mem_nil⟩⟩) (show zget zprog2 265 = some m2X8_product from rfl) (List.forall_mem_cons.mpr ⟨zyx864k E, List.forall_mem_cons.mpr ⟨zyx858k E, List.forall_mem_cons.mpr ⟨zyx852k E, List.forall_mem_cons.mpr ⟨zyx846k E, List.forall_mem_cons.mpr ⟨zyx840k E, List.forall_mem_cons.mpr ⟨zyx834k E, List.forall_mem_cons.mpr ⟨zyx828k E, List.forall_mem_cons.mpr ⟨zyx822k E, fun _ h => absurd h List.not_mem_nil⟩⟩⟩⟩⟩⟩⟩⟩) zyx870c _ List.mem_cons_self
noncomputable def zyx870d : zKw := (265, 5, 37, 4500, zyx870a, zyh1173, [(zyx870r, zyh1222)])
set_option maxRecDepth 100000 in
theorem zyx870e : zrunw zprog2 (zovW [zyx869d, zyx863d]) 100000 (zcutW [(94, 15)] none ((zyx870r, zyh1222), 37, 4500) [zyx870q, zyx864q, zyx858q, zyx852q, zyx846q, zyx840q, zyx834q, zyx828q, zyx822q]) 37 4500 k2X8_product (zkin zyx870r zyh1222) 0 (zargs 0 zyx870a, [], (zyh1173.1, zyh1173.2.1, 0), 0, 0) = true := by decide +kernel
theorem zyx870 {l : Launch} {D : va_G} {tys : List (ClassId × FieldType)} {o : zO} {z : Nat} (E : zEnv tys) : zKnW l D vwCl tys o z (zXX o z) zTs zprog2 zyx870d :=
  zkn_mk E (fun g => List.forall_mem_cons.mpr ⟨zyx869 (o := zwith o g) E, List.forall_mem_cons.mpr ⟨zyx863 (o := zwith o g) E, fun _ h => absurd h List.not_mem_nil⟩⟩) (show zget zprog2 265 = some m2X8_product from rfl) rfl (by decide) (by decide) (by decide) (by decide) (G := [zyx870q, zyx864q, zyx858q, zyx852q, zyx846q, zyx840q, zyx834q, zyx828q, zyx822q]) (List.forall_mem_cons.mpr ⟨zyx870k E, List.forall_mem_cons.mpr ⟨zyx864k E, List.forall_mem_cons.mpr ⟨zyx858k E, List.forall_mem_cons.mpr ⟨zyx852k E, List.forall_mem_cons.mpr ⟨zyx846k E, List.forall_mem_cons.mpr ⟨zyx840k E, List.forall_mem_cons.mpr ⟨zyx834k E, List.forall_mem_cons.mpr ⟨zyx828k E, List.forall_mem_cons.mpr ⟨zyx822k E, fun _ h => absurd h List.not_mem_nil⟩⟩⟩⟩⟩⟩⟩⟩⟩) zyx870e
/-! X8_sum ((('r', 103), 40, 32),) -/
noncomputable def zyx871a : List zAV := [.inr (.inr (.inl 94)), .inl ((.ofNat 1, .ofNat 4), none)]
def zyx871r : Option zAV := some (.inl ((.negSucc 2147483647, .ofNat 2147483647), none))
noncomputable def zyx871q : zPw := ((6, ([(0, .inr (.inr (.inl 94))), (1, .inl ((.ofNat 0, .ofNat 4), some (1, .ofNat 0))), (2, .inl ((.negSucc 2147483647, .ofNat 2147483647), some (2, .ofNat 0)))], [], zyh1222, 0, 0), [], 0), (zyx871r, zyh1222), 38, 4620)
set_option maxRecDepth 100000 in
theorem zyx871c : zchkX [(94, 15)] zprog2 (zovW [zyx870d, zyx864d]) 100000 kX8_sum [zyx865q, zyx859q, zyx853q, zyx847q, zyx841q, zyx835q, zyx829q, zyx823q] [zyx871q] [zyx871q] = true := by decide +kernel
theorem zyx871k {l : Launch} {D : va_G} {tys : List (ClassId × FieldType)} {o : zO} {z : Nat} (E : zEnv tys) : zPtOk l D vwCl tys o z (zXX o z) zTs mX8_sum zyx871q := zkn_pt E (fun g => List.forall_mem_cons.mpr ⟨zyx870 (o := zwith o g) E, List.forall_mem_cons.mpr ⟨zyx864 (o := zwith o g) E, fun _ h => absurd h List.not_mem_nil⟩⟩) (show zget zprog2 284 = some mX8_sum from rfl) (List.forall_mem_cons.mpr ⟨zyx865k E, List.forall_mem_cons.mpr ⟨zyx859k E, List.forall_mem_cons.mpr ⟨zyx853k E, List.forall_mem_cons.mpr ⟨zyx847k E, List.forall_mem_cons.mpr ⟨zyx841k E, List.forall_mem_cons.mpr ⟨zyx835k E, List.forall_mem_cons.mpr ⟨zyx829k E, List.forall_mem_cons.mpr ⟨zyx823k E, fun _ h => absurd h List.not_mem_nil⟩⟩⟩⟩⟩⟩⟩⟩) zyx871c _ List.mem_cons_self
noncomputable def zyx871d : zKw := (284, 5, 38, 4620, zyx871a, zyh1173, [(zyx871r, zyh1222)])
set_option maxRecDepth 100000 in
theorem zyx871e : zrunw zprog2 (zovW [zyx870d, zyx864d]) 100000 (zcutW [(94, 15)] none ((zyx871r, zyh1222), 38, 4620) [zyx871q, zyx865q, zyx859q, zyx853q, zyx847q, zyx841q, zyx835q, zyx829q, zyx823q]) 38 4620 kX8_sum (zkin zyx871r zyh1222) 0 (zargs 0 zyx871a, [], (zyh1173.1, zyh1173.2.1, 0), 0, 0) = true := by decide +kernel
theorem zyx871 {l : Launch} {D : va_G} {tys : List (ClassId × FieldType)} {o : zO} {z : Nat} (E : zEnv tys) : zKnW l D vwCl tys o z (zXX o z) zTs zprog2 zyx871d :=
  zkn_mk E (fun g => List.forall_mem_cons.mpr ⟨zyx870 (o := zwith o g) E, List.forall_mem_cons.mpr ⟨zyx864 (o := zwith o g) E, fun _ h => absurd h List.not_mem_nil⟩⟩) (show zget zprog2 284 = some mX8_sum from rfl) rfl (by decide) (by decide) (by decide) (by decide) (G := [zyx871q, zyx865q, zyx859q, zyx853q, zyx847q, zyx841q, zyx835q, zyx829q, zyx823q]) (List.forall_mem_cons.mpr ⟨zyx871k E, List.forall_mem_cons.mpr ⟨zyx865k E, List.forall_mem_cons.mpr ⟨zyx859k E, List.forall_mem_cons.mpr ⟨zyx853k E, List.forall_mem_cons.mpr ⟨zyx847k E, List.forall_mem_cons.mpr ⟨zyx841k E, List.forall_mem_cons.mpr ⟨zyx835k E, List.forall_mem_cons.mpr ⟨zyx829k E, List.forall_mem_cons.mpr ⟨zyx823k E, fun _ h => absurd h List.not_mem_nil⟩⟩⟩⟩⟩⟩⟩⟩⟩) zyx871e
/-! X8_heldBy -/
noncomputable def zyx872a : List zAV := [.inr (.inr (.inl 94)), .inl ((.ofNat 1, .ofNat 4), none)]
def zyx872r : Option zAV := some (.inl ((.negSucc 2147483647, .ofNat 2147483647), none))
noncomputable def zyx872p : List zPw := []
noncomputable def zyx872d : zKw := (229, 3, 39, 4740, zyx872a, zyh1173, [(zyx872r, zyh1222)])
set_option maxRecDepth 100000 in
theorem zyx872e : zrunw zprog2 (zovW [zyx871d, zyx865d, zyx812d]) 100000 (zcutW [] none ((zyx872r, zyh1222), 39, 4740) zyx872p) 39 4740 kX8_heldBy (zkin zyx872r zyh1222) 0 (zargs 0 zyx872a, [], (zyh1173.1, zyh1173.2.1, 0), 0, 0) = true := by decide +kernel
theorem zyx872 {l : Launch} {D : va_G} {tys : List (ClassId × FieldType)} {o : zO} {z : Nat} (E : zEnv tys) : zKnW l D vwCl tys o z (zXX o z) zTs zprog2 zyx872d :=
  zkn_mk E (fun g => List.forall_mem_cons.mpr ⟨zyx871 (o := zwith o g) E, List.forall_mem_cons.mpr ⟨zyx865 (o := zwith o g) E, List.forall_mem_cons.mpr ⟨zyx812 (o := zwith o g) E, fun _ h => absurd h List.not_mem_nil⟩⟩⟩) (show zget zprog2 229 = some mX8_heldBy from rfl) rfl (by decide) (by decide) (by decide) (by decide) (G := zyx872p) (fun _ h => absurd h List.not_mem_nil) zyx872e
/-! X8_oneOf -/
noncomputable def zyx873a : List zAV := [zyv320, zyv362, zyv363]
noncomputable def zyx873q : List (Option zAV × zH) := [(some (.inl ((.ofNat 0, .ofNat 0), none)), zyh1223), (some (.inl ((.negSucc 175, .ofNat 79), none)), zyh1224)]
noncomputable def zyx873d : zKw := (260, 3, 4, 480, zyx873a, zyh1170, zyx873q)
set_option maxRecDepth 100000 in
theorem zyx873e : zrunw zprog2 (zovW []) 100000 zcut0 4 480 kX8_oneOf (zkinL zyx873q) 0 (zargs 0 zyx873a, [], (zyh1170.1, zyh1170.2.1, 0), 0, 0) = true := by decide +kernel
theorem zyx873 {l : Launch} {D : va_G} {tys : List (ClassId × FieldType)} {o : zO} {z : Nat} (E : zEnv tys) : zKnW l D vwCl tys o z (zXX o z) zTs zprog2 zyx873d :=
  zkn_ml E (fun g => fun _ h => absurd h List.not_mem_nil) (show zget zprog2 260 = some mX8_oneOf from rfl) rfl (by decide) (by decide) (by decide) (by decide) zyx873e
/-! X8_number -/
noncomputable def zyx874a : List zAV := [.inr (.inr (.inl 94)), .inl ((.ofNat 3, .ofNat 3), none)]
def zyx874r : Option zAV := some (.inl ((.negSucc 2147483647, .ofNat 2147483647), none))
noncomputable def zyx874p : List zPw := [((11, ([(0, .inr (.inr (.inl 94))), (1, .inl ((.ofNat 3, .ofNat 3), some (1, .ofNat 0))), (2, .inl ((.negSucc 2147483647, .ofNat 2147483647), some (2, .ofNat 0))), (3, .inl ((.ofNat 1, .ofNat 3), some (3, .ofNat 0)))], [], zyh1225, 0, 0), [(3, .negSucc 1)], .ofNat 7), (zyx874r, zyh1225), 5, 600)]
noncomputable def zyx874d : zKw := (259, 4, 5, 600, zyx874a, zyh1170, [(zyx874r, zyh1225)])
set_option maxRecDepth 100000 in
theorem zyx874c : zchkX [] zprog2 (zovW [zyx873d]) 100000 kX8_number [] zyx874p zyx874p = true := by decide +kernel
set_option maxRecDepth 100000 in
theorem zyx874e : zrunw zprog2 (zovW [zyx873d]) 100000 (zcutW [] none ((zyx874r, zyh1225), 5, 600) zyx874p) 5 600 kX8_number (zkin zyx874r zyh1225) 0 (zargs 0 zyx874a, [], (zyh1170.1, zyh1170.2.1, 0), 0, 0) = true := by decide +kernel
theorem zyx874 {l : Launch} {D : va_G} {tys : List (ClassId × FieldType)} {o : zO} {z : Nat} (E : zEnv tys) : zKnW l D vwCl tys o z (zXX o z) zTs zprog2 zyx874d :=
  zkn_mk E (fun g => List.forall_mem_cons.mpr ⟨zyx873 (o := zwith o g) E, fun _ h => absurd h List.not_mem_nil⟩) (show zget zprog2 259 = some mX8_number from rfl) rfl (by decide) (by decide) (by decide) (by decide) (G := zyx874p) (zkn_pt E (fun g => List.forall_mem_cons.mpr ⟨zyx873 (o := zwith o g) E, fun _ h => absurd h List.not_mem_nil⟩) (show zget zprog2 259 = some mX8_number from rfl) (fun _ h => absurd h List.not_mem_nil) zyx874c) zyx874e
/-! X8_thing -/
noncomputable def zyx875a : List zAV := [.inr (.inr (.inl 94)), .inl ((.ofNat 0, .ofNat 4), none)]
def zyx875r : Option zAV := some (.inl ((.negSucc 2147483647, .ofNat 2147483647), none))
noncomputable def zyx875p : List zPw := []
noncomputable def zyx875d : zKw := (292, 4, 40, 4860, zyx875a, zyh1170, [(zyx875r, zyh1225)])
set_option maxRecDepth 100000 in
theorem zyx875e : zrunw zprog2 (zovW [zyx874d, zyx872d, zyx869d, zyx811d, zyx812d]) 100000 (zcutW [] none ((zyx875r, zyh1225), 40, 4860) zyx875p) 40 4860 k2X8_thing (zkin zyx875r zyh1225) 0 (zargs 0 zyx875a, [], (zyh1170.1, zyh1170.2.1, 0), 0, 0) = true := by decide +kernel
theorem zyx875 {l : Launch} {D : va_G} {tys : List (ClassId × FieldType)} {o : zO} {z : Nat} (E : zEnv tys) : zKnW l D vwCl tys o z (zXX o z) zTs zprog2 zyx875d :=
  zkn_mk E (fun g => List.forall_mem_cons.mpr ⟨zyx874 (o := zwith o g) E, List.forall_mem_cons.mpr ⟨zyx872 (o := zwith o g) E, List.forall_mem_cons.mpr ⟨zyx869 (o := zwith o g) E, List.forall_mem_cons.mpr ⟨zyx811 (o := zwith o g) E, List.forall_mem_cons.mpr ⟨zyx812 (o := zwith o g) E, fun _ h => absurd h List.not_mem_nil⟩⟩⟩⟩⟩) (show zget zprog2 292 = some m2X8_thing from rfl) rfl (by decide) (by decide) (by decide) (by decide) (G := zyx875p) (fun _ h => absurd h List.not_mem_nil) zyx875e
/-! X8_product ((('r', 103), 40, 31),) -/
noncomputable def zyx876a : List zAV := [.inr (.inr (.inl 94)), .inl ((.ofNat 0, .ofNat 4), none)]
def zyx876r : Option zAV := some (.inl ((.negSucc 2147483647, .ofNat 2147483647), none))
noncomputable def zyx876q : zPw := ((6, ([(0, .inr (.inr (.inl 94))), (1, .inl ((.ofNat 0, .ofNat 4), some (1, .ofNat 0))), (2, .inl ((.negSucc 2147483647, .ofNat 2147483647), some (2, .ofNat 0)))], [], zyh1225, 0, 0), [], 0), (zyx876r, zyh1225), 41, 4980)
set_option maxRecDepth 100000 in
theorem zyx876c : zchkX [(94, 15)] zprog2 (zovW [zyx875d, zyx869d]) 100000 k2X8_product [zyx870q, zyx864q, zyx858q, zyx852q, zyx846q, zyx840q, zyx834q, zyx828q, zyx822q] [zyx876q] [zyx876q] = true := by decide +kernel
theorem zyx876k {l : Launch} {D : va_G} {tys : List (ClassId × FieldType)} {o : zO} {z : Nat} (E : zEnv tys) : zPtOk l D vwCl tys o z (zXX o z) zTs m2X8_product zyx876q := zkn_pt E (fun g => List.forall_mem_cons.mpr ⟨zyx875 (o := zwith o g) E, List.forall_mem_cons.mpr ⟨zyx869 (o := zwith o g) E, fun _ h => absurd h List.not_mem_nil⟩⟩) (show zget zprog2 265 = some m2X8_product from rfl) (List.forall_mem_cons.mpr ⟨zyx870k E, List.forall_mem_cons.mpr ⟨zyx864k E, List.forall_mem_cons.mpr ⟨zyx858k E, List.forall_mem_cons.mpr ⟨zyx852k E, List.forall_mem_cons.mpr ⟨zyx846k E, List.forall_mem_cons.mpr ⟨zyx840k E, List.forall_mem_cons.mpr ⟨zyx834k E, List.forall_mem_cons.mpr ⟨zyx828k E, List.forall_mem_cons.mpr ⟨zyx822k E, fun _ h => absurd h List.not_mem_nil⟩⟩⟩⟩⟩⟩⟩⟩⟩) zyx876c _ List.mem_cons_self
noncomputable def zyx876d : zKw := (265, 5, 41, 4980, zyx876a, zyh1170, [(zyx876r, zyh1225)])
set_option maxRecDepth 100000 in
theorem zyx876e : zrunw zprog2 (zovW [zyx875d, zyx869d]) 100000 (zcutW [(94, 15)] none ((zyx876r, zyh1225), 41, 4980) [zyx876q, zyx870q, zyx864q, zyx858q, zyx852q, zyx846q, zyx840q, zyx834q, zyx828q, zyx822q]) 41 4980 k2X8_product (zkin zyx876r zyh1225) 0 (zargs 0 zyx876a, [], (zyh1170.1, zyh1170.2.1, 0), 0, 0) = true := by decide +kernel
theorem zyx876 {l : Launch} {D : va_G} {tys : List (ClassId × FieldType)} {o : zO} {z : Nat} (E : zEnv tys) : zKnW l D vwCl tys o z (zXX o z) zTs zprog2 zyx876d :=
  zkn_mk E (fun g => List.forall_mem_cons.mpr ⟨zyx875 (o := zwith o g) E, List.forall_mem_cons.mpr ⟨zyx869 (o := zwith o g) E, fun _ h => absurd h List.not_mem_nil⟩⟩) (show zget zprog2 265 = some m2X8_product from rfl) rfl (by decide) (by decide) (by decide) (by decide) (G := [zyx876q, zyx870q, zyx864q, zyx858q, zyx852q, zyx846q, zyx840q, zyx834q, zyx828q, zyx822q]) (List.forall_mem_cons.mpr ⟨zyx876k E, List.forall_mem_cons.mpr ⟨zyx870k E, List.forall_mem_cons.mpr ⟨zyx864k E, List.forall_mem_cons.mpr ⟨zyx858k E, List.forall_mem_cons.mpr ⟨zyx852k E, List.forall_mem_cons.mpr ⟨zyx846k E, List.forall_mem_cons.mpr ⟨zyx840k E, List.forall_mem_cons.mpr ⟨zyx834k E, List.forall_mem_cons.mpr ⟨zyx828k E, List.forall_mem_cons.mpr ⟨zyx822k E, fun _ h => absurd h List.not_mem_nil⟩⟩⟩⟩⟩⟩⟩⟩⟩⟩) zyx876e
/-! X8_sum ((('r', 103), 40, 31),) -/
noncomputable def zyx877a : List zAV := [.inr (.inr (.inl 94)), .inl ((.ofNat 1, .ofNat 4), none)]
def zyx877r : Option zAV := some (.inl ((.negSucc 2147483647, .ofNat 2147483647), none))
noncomputable def zyx877q : zPw := ((6, ([(0, .inr (.inr (.inl 94))), (1, .inl ((.ofNat 0, .ofNat 4), some (1, .ofNat 0))), (2, .inl ((.negSucc 2147483647, .ofNat 2147483647), some (2, .ofNat 0)))], [], zyh1225, 0, 0), [], 0), (zyx877r, zyh1225), 42, 5100)
set_option maxRecDepth 100000 in
theorem zyx877c : zchkX [(94, 15)] zprog2 (zovW [zyx876d, zyx870d]) 100000 kX8_sum [zyx871q, zyx865q, zyx859q, zyx853q, zyx847q, zyx841q, zyx835q, zyx829q, zyx823q] [zyx877q] [zyx877q] = true := by decide +kernel
theorem zyx877k {l : Launch} {D : va_G} {tys : List (ClassId × FieldType)} {o : zO} {z : Nat} (E : zEnv tys) : zPtOk l D vwCl tys o z (zXX o z) zTs mX8_sum zyx877q := zkn_pt E (fun g => List.forall_mem_cons.mpr ⟨zyx876 (o := zwith o g) E, List.forall_mem_cons.mpr ⟨zyx870 (o := zwith o g) E, fun _ h => absurd h List.not_mem_nil⟩⟩) (show zget zprog2 284 = some mX8_sum from rfl) (List.forall_mem_cons.mpr ⟨zyx871k E, List.forall_mem_cons.mpr ⟨zyx865k E, List.forall_mem_cons.mpr ⟨zyx859k E, List.forall_mem_cons.mpr ⟨zyx853k E, List.forall_mem_cons.mpr ⟨zyx847k E, List.forall_mem_cons.mpr ⟨zyx841k E, List.forall_mem_cons.mpr ⟨zyx835k E, List.forall_mem_cons.mpr ⟨zyx829k E, List.forall_mem_cons.mpr ⟨zyx823k E, fun _ h => absurd h List.not_mem_nil⟩⟩⟩⟩⟩⟩⟩⟩⟩) zyx877c _ List.mem_cons_self
noncomputable def zyx877d : zKw := (284, 5, 42, 5100, zyx877a, zyh1170, [(zyx877r, zyh1225)])
set_option maxRecDepth 100000 in
theorem zyx877e : zrunw zprog2 (zovW [zyx876d, zyx870d]) 100000 (zcutW [(94, 15)] none ((zyx877r, zyh1225), 42, 5100) [zyx877q, zyx871q, zyx865q, zyx859q, zyx853q, zyx847q, zyx841q, zyx835q, zyx829q, zyx823q]) 42 5100 kX8_sum (zkin zyx877r zyh1225) 0 (zargs 0 zyx877a, [], (zyh1170.1, zyh1170.2.1, 0), 0, 0) = true := by decide +kernel
theorem zyx877 {l : Launch} {D : va_G} {tys : List (ClassId × FieldType)} {o : zO} {z : Nat} (E : zEnv tys) : zKnW l D vwCl tys o z (zXX o z) zTs zprog2 zyx877d :=
  zkn_mk E (fun g => List.forall_mem_cons.mpr ⟨zyx876 (o := zwith o g) E, List.forall_mem_cons.mpr ⟨zyx870 (o := zwith o g) E, fun _ h => absurd h List.not_mem_nil⟩⟩) (show zget zprog2 284 = some mX8_sum from rfl) rfl (by decide) (by decide) (by decide) (by decide) (G := [zyx877q, zyx871q, zyx865q, zyx859q, zyx853q, zyx847q, zyx841q, zyx835q, zyx829q, zyx823q]) (List.forall_mem_cons.mpr ⟨zyx877k E, List.forall_mem_cons.mpr ⟨zyx871k E, List.forall_mem_cons.mpr ⟨zyx865k E, List.forall_mem_cons.mpr ⟨zyx859k E, List.forall_mem_cons.mpr ⟨zyx853k E, List.forall_mem_cons.mpr ⟨zyx847k E, List.forall_mem_cons.mpr ⟨zyx841k E, List.forall_mem_cons.mpr ⟨zyx835k E, List.forall_mem_cons.mpr ⟨zyx829k E, List.forall_mem_cons.mpr ⟨zyx823k E, fun _ h => absurd h List.not_mem_nil⟩⟩⟩⟩⟩⟩⟩⟩⟩⟩) zyx877e
/-! X8_heldBy -/
noncomputable def zyx878a : List zAV := [.inr (.inr (.inl 94)), .inl ((.ofNat 1, .ofNat 4), none)]
def zyx878r : Option zAV := some (.inl ((.negSucc 2147483647, .ofNat 2147483647), none))
noncomputable def zyx878p : List zPw := []
noncomputable def zyx878d : zKw := (229, 3, 43, 5220, zyx878a, zyh1170, [(zyx878r, zyh1225)])
set_option maxRecDepth 100000 in
theorem zyx878e : zrunw zprog2 (zovW [zyx877d, zyx871d, zyx811d]) 100000 (zcutW [] none ((zyx878r, zyh1225), 43, 5220) zyx878p) 43 5220 kX8_heldBy (zkin zyx878r zyh1225) 0 (zargs 0 zyx878a, [], (zyh1170.1, zyh1170.2.1, 0), 0, 0) = true := by decide +kernel
theorem zyx878 {l : Launch} {D : va_G} {tys : List (ClassId × FieldType)} {o : zO} {z : Nat} (E : zEnv tys) : zKnW l D vwCl tys o z (zXX o z) zTs zprog2 zyx878d :=
  zkn_mk E (fun g => List.forall_mem_cons.mpr ⟨zyx877 (o := zwith o g) E, List.forall_mem_cons.mpr ⟨zyx871 (o := zwith o g) E, List.forall_mem_cons.mpr ⟨zyx811 (o := zwith o g) E, fun _ h => absurd h List.not_mem_nil⟩⟩⟩) (show zget zprog2 229 = some mX8_heldBy from rfl) rfl (by decide) (by decide) (by decide) (by decide) (G := zyx878p) (fun _ h => absurd h List.not_mem_nil) zyx878e
/-! X8_oneOf -/
noncomputable def zyx879a : List zAV := [zyv320, zyv362, zyv363]
noncomputable def zyx879q : List (Option zAV × zH) := [(some (.inl ((.ofNat 0, .ofNat 0), none)), zyh1226), (some (.inl ((.negSucc 175, .ofNat 79), none)), zyh1227)]
noncomputable def zyx879d : zKw := (260, 3, 4, 480, zyx879a, zyh1167, zyx879q)
set_option maxRecDepth 100000 in
theorem zyx879e : zrunw zprog2 (zovW []) 100000 zcut0 4 480 kX8_oneOf (zkinL zyx879q) 0 (zargs 0 zyx879a, [], (zyh1167.1, zyh1167.2.1, 0), 0, 0) = true := by decide +kernel
theorem zyx879 {l : Launch} {D : va_G} {tys : List (ClassId × FieldType)} {o : zO} {z : Nat} (E : zEnv tys) : zKnW l D vwCl tys o z (zXX o z) zTs zprog2 zyx879d :=
  zkn_ml E (fun g => fun _ h => absurd h List.not_mem_nil) (show zget zprog2 260 = some mX8_oneOf from rfl) rfl (by decide) (by decide) (by decide) (by decide) zyx879e
/-! X8_number -/
noncomputable def zyx880a : List zAV := [.inr (.inr (.inl 94)), .inl ((.ofNat 3, .ofNat 3), none)]
def zyx880r : Option zAV := some (.inl ((.negSucc 2147483647, .ofNat 2147483647), none))
noncomputable def zyx880p : List zPw := [((11, ([(0, .inr (.inr (.inl 94))), (1, .inl ((.ofNat 3, .ofNat 3), some (1, .ofNat 0))), (2, .inl ((.negSucc 2147483647, .ofNat 2147483647), some (2, .ofNat 0))), (3, .inl ((.ofNat 1, .ofNat 3), some (3, .ofNat 0)))], [], zyh1228, 0, 0), [(3, .negSucc 1)], .ofNat 7), (zyx880r, zyh1228), 5, 600)]
noncomputable def zyx880d : zKw := (259, 4, 5, 600, zyx880a, zyh1167, [(zyx880r, zyh1228)])
set_option maxRecDepth 100000 in
theorem zyx880c : zchkX [] zprog2 (zovW [zyx879d]) 100000 kX8_number [] zyx880p zyx880p = true := by decide +kernel
set_option maxRecDepth 100000 in
theorem zyx880e : zrunw zprog2 (zovW [zyx879d]) 100000 (zcutW [] none ((zyx880r, zyh1228), 5, 600) zyx880p) 5 600 kX8_number (zkin zyx880r zyh1228) 0 (zargs 0 zyx880a, [], (zyh1167.1, zyh1167.2.1, 0), 0, 0) = true := by decide +kernel
theorem zyx880 {l : Launch} {D : va_G} {tys : List (ClassId × FieldType)} {o : zO} {z : Nat} (E : zEnv tys) : zKnW l D vwCl tys o z (zXX o z) zTs zprog2 zyx880d :=
  zkn_mk E (fun g => List.forall_mem_cons.mpr ⟨zyx879 (o := zwith o g) E, fun _ h => absurd h List.not_mem_nil⟩) (show zget zprog2 259 = some mX8_number from rfl) rfl (by decide) (by decide) (by decide) (by decide) (G := zyx880p) (zkn_pt E (fun g => List.forall_mem_cons.mpr ⟨zyx879 (o := zwith o g) E, fun _ h => absurd h List.not_mem_nil⟩) (show zget zprog2 259 = some mX8_number from rfl) (fun _ h => absurd h List.not_mem_nil) zyx880c) zyx880e
/-! X8_thing -/
noncomputable def zyx881a : List zAV := [.inr (.inr (.inl 94)), .inl ((.ofNat 0, .ofNat 4), none)]
def zyx881r : Option zAV := some (.inl ((.negSucc 2147483647, .ofNat 2147483647), none))
noncomputable def zyx881p : List zPw := []
noncomputable def zyx881d : zKw := (292, 4, 44, 5340, zyx881a, zyh1167, [(zyx881r, zyh1228)])
set_option maxRecDepth 100000 in
theorem zyx881e : zrunw zprog2 (zovW [zyx880d, zyx878d, zyx875d, zyx810d, zyx811d]) 100000 (zcutW [] none ((zyx881r, zyh1228), 44, 5340) zyx881p) 44 5340 k2X8_thing (zkin zyx881r zyh1228) 0 (zargs 0 zyx881a, [], (zyh1167.1, zyh1167.2.1, 0), 0, 0) = true := by decide +kernel
theorem zyx881 {l : Launch} {D : va_G} {tys : List (ClassId × FieldType)} {o : zO} {z : Nat} (E : zEnv tys) : zKnW l D vwCl tys o z (zXX o z) zTs zprog2 zyx881d :=
  zkn_mk E (fun g => List.forall_mem_cons.mpr ⟨zyx880 (o := zwith o g) E, List.forall_mem_cons.mpr ⟨zyx878 (o := zwith o g) E, List.forall_mem_cons.mpr ⟨zyx875 (o := zwith o g) E, List.forall_mem_cons.mpr ⟨zyx810 (o := zwith o g) E, List.forall_mem_cons.mpr ⟨zyx811 (o := zwith o g) E, fun _ h => absurd h List.not_mem_nil⟩⟩⟩⟩⟩) (show zget zprog2 292 = some m2X8_thing from rfl) rfl (by decide) (by decide) (by decide) (by decide) (G := zyx881p) (fun _ h => absurd h List.not_mem_nil) zyx881e
/-! X8_product ((('r', 103), 40, 30),) -/
noncomputable def zyx882a : List zAV := [.inr (.inr (.inl 94)), .inl ((.ofNat 0, .ofNat 4), none)]
def zyx882r : Option zAV := some (.inl ((.negSucc 2147483647, .ofNat 2147483647), none))
noncomputable def zyx882q : zPw := ((6, ([(0, .inr (.inr (.inl 94))), (1, .inl ((.ofNat 0, .ofNat 4), some (1, .ofNat 0))), (2, .inl ((.negSucc 2147483647, .ofNat 2147483647), some (2, .ofNat 0)))], [], zyh1228, 0, 0), [], 0), (zyx882r, zyh1228), 45, 5460)
set_option maxRecDepth 100000 in
theorem zyx882c : zchkX [(94, 15)] zprog2 (zovW [zyx881d, zyx875d]) 100000 k2X8_product [zyx876q, zyx870q, zyx864q, zyx858q, zyx852q, zyx846q, zyx840q, zyx834q, zyx828q, zyx822q] [zyx882q] [zyx882q] = true := by decide +kernel
theorem zyx882k {l : Launch} {D : va_G} {tys : List (ClassId × FieldType)} {o : zO} {z : Nat} (E : zEnv tys) : zPtOk l D vwCl tys o z (zXX o z) zTs m2X8_product zyx882q := zkn_pt E (fun g => List.forall_mem_cons.mpr ⟨zyx881 (o := zwith o g) E, List.forall_mem_cons.mpr ⟨zyx875 (o := zwith o g) E, fun _ h => absurd h List.not_mem_nil⟩⟩) (show zget zprog2 265 = some m2X8_product from rfl) (List.forall_mem_cons.mpr ⟨zyx876k E, List.forall_mem_cons.mpr ⟨zyx870k E, List.forall_mem_cons.mpr ⟨zyx864k E, List.forall_mem_cons.mpr ⟨zyx858k E, List.forall_mem_cons.mpr ⟨zyx852k E, List.forall_mem_cons.mpr ⟨zyx846k E, List.forall_mem_cons.mpr ⟨zyx840k E, List.forall_mem_cons.mpr ⟨zyx834k E, List.forall_mem_cons.mpr ⟨zyx828k E, List.forall_mem_cons.mpr ⟨zyx822k E, fun _ h => absurd h List.not_mem_nil⟩⟩⟩⟩⟩⟩⟩⟩⟩⟩) zyx882c _ List.mem_cons_self
noncomputable def zyx882d : zKw := (265, 5, 45, 5460, zyx882a, zyh1167, [(zyx882r, zyh1228)])
set_option maxRecDepth 100000 in
theorem zyx882e : zrunw zprog2 (zovW [zyx881d, zyx875d]) 100000 (zcutW [(94, 15)] none ((zyx882r, zyh1228), 45, 5460) [zyx882q, zyx876q, zyx870q, zyx864q, zyx858q, zyx852q, zyx846q, zyx840q, zyx834q, zyx828q, zyx822q]) 45 5460 k2X8_product (zkin zyx882r zyh1228) 0 (zargs 0 zyx882a, [], (zyh1167.1, zyh1167.2.1, 0), 0, 0) = true := by decide +kernel
theorem zyx882 {l : Launch} {D : va_G} {tys : List (ClassId × FieldType)} {o : zO} {z : Nat} (E : zEnv tys) : zKnW l D vwCl tys o z (zXX o z) zTs zprog2 zyx882d :=
  zkn_mk E (fun g => List.forall_mem_cons.mpr ⟨zyx881 (o := zwith o g) E, List.forall_mem_cons.mpr ⟨zyx875 (o := zwith o g) E, fun _ h => absurd h List.not_mem_nil⟩⟩) (show zget zprog2 265 = some m2X8_product from rfl) rfl (by decide) (by decide) (by decide) (by decide) (G := [zyx882q, zyx876q, zyx870q, zyx864q, zyx858q, zyx852q, zyx846q, zyx840q, zyx834q, zyx828q, zyx822q]) (List.forall_mem_cons.mpr ⟨zyx882k E, List.forall_mem_cons.mpr ⟨zyx876k E, List.forall_mem_cons.mpr ⟨zyx870k E, List.forall_mem_cons.mpr ⟨zyx864k E, List.forall_mem_cons.mpr ⟨zyx858k E, List.forall_mem_cons.mpr ⟨zyx852k E, List.forall_mem_cons.mpr ⟨zyx846k E, List.forall_mem_cons.mpr ⟨zyx840k E, List.forall_mem_cons.mpr ⟨zyx834k E, List.forall_mem_cons.mpr ⟨zyx828k E, List.forall_mem_cons.mpr ⟨zyx822k E, fun _ h => absurd h List.not_mem_nil⟩⟩⟩⟩⟩⟩⟩⟩⟩⟩⟩) zyx882e
/-! X8_sum ((('r', 103), 40, 30),) -/
noncomputable def zyx883a : List zAV := [.inr (.inr (.inl 94)), .inl ((.ofNat 1, .ofNat 4), none)]
def zyx883r : Option zAV := some (.inl ((.negSucc 2147483647, .ofNat 2147483647), none))
noncomputable def zyx883q : zPw := ((6, ([(0, .inr (.inr (.inl 94))), (1, .inl ((.ofNat 0, .ofNat 4), some (1, .ofNat 0))), (2, .inl ((.negSucc 2147483647, .ofNat 2147483647), some (2, .ofNat 0)))], [], zyh1228, 0, 0), [], 0), (zyx883r, zyh1228), 46, 5580)
set_option maxRecDepth 100000 in
theorem zyx883c : zchkX [(94, 15)] zprog2 (zovW [zyx882d, zyx876d]) 100000 kX8_sum [zyx877q, zyx871q, zyx865q, zyx859q, zyx853q, zyx847q, zyx841q, zyx835q, zyx829q, zyx823q] [zyx883q] [zyx883q] = true := by decide +kernel
theorem zyx883k {l : Launch} {D : va_G} {tys : List (ClassId × FieldType)} {o : zO} {z : Nat} (E : zEnv tys) : zPtOk l D vwCl tys o z (zXX o z) zTs mX8_sum zyx883q := zkn_pt E (fun g => List.forall_mem_cons.mpr ⟨zyx882 (o := zwith o g) E, List.forall_mem_cons.mpr ⟨zyx876 (o := zwith o g) E, fun _ h => absurd h List.not_mem_nil⟩⟩) (show zget zprog2 284 = some mX8_sum from rfl) (List.forall_mem_cons.mpr ⟨zyx877k E, List.forall_mem_cons.mpr ⟨zyx871k E, List.forall_mem_cons.mpr ⟨zyx865k E, List.forall_mem_cons.mpr ⟨zyx859k E, List.forall_mem_cons.mpr ⟨zyx853k E, List.forall_mem_cons.mpr ⟨zyx847k E, List.forall_mem_cons.mpr ⟨zyx841k E, List.forall_mem_cons.mpr ⟨zyx835k E, List.forall_mem_cons.mpr ⟨zyx829k E, List.forall_mem_cons.mpr ⟨zyx823k E, fun _ h => absurd h List.not_mem_nil⟩⟩⟩⟩⟩⟩⟩⟩⟩⟩) zyx883c _ List.mem_cons_self
noncomputable def zyx883d : zKw := (284, 5, 46, 5580, zyx883a, zyh1167, [(zyx883r, zyh1228)])
set_option maxRecDepth 100000 in
theorem zyx883e : zrunw zprog2 (zovW [zyx882d, zyx876d]) 100000 (zcutW [(94, 15)] none ((zyx883r, zyh1228), 46, 5580) [zyx883q, zyx877q, zyx871q, zyx865q, zyx859q, zyx853q, zyx847q, zyx841q, zyx835q, zyx829q, zyx823q]) 46 5580 kX8_sum (zkin zyx883r zyh1228) 0 (zargs 0 zyx883a, [], (zyh1167.1, zyh1167.2.1, 0), 0, 0) = true := by decide +kernel
theorem zyx883 {l : Launch} {D : va_G} {tys : List (ClassId × FieldType)} {o : zO} {z : Nat} (E : zEnv tys) : zKnW l D vwCl tys o z (zXX o z) zTs zprog2 zyx883d :=
  zkn_mk E (fun g => List.forall_mem_cons.mpr ⟨zyx882 (o := zwith o g) E, List.forall_mem_cons.mpr ⟨zyx876 (o := zwith o g) E, fun _ h => absurd h List.not_mem_nil⟩⟩) (show zget zprog2 284 = some mX8_sum from rfl) rfl (by decide) (by decide) (by decide) (by decide) (G := [zyx883q, zyx877q, zyx871q, zyx865q, zyx859q, zyx853q, zyx847q, zyx841q, zyx835q, zyx829q, zyx823q]) (List.forall_mem_cons.mpr ⟨zyx883k E, List.forall_mem_cons.mpr ⟨zyx877k E, List.forall_mem_cons.mpr ⟨zyx871k E, List.forall_mem_cons.mpr ⟨zyx865k E, List.forall_mem_cons.mpr ⟨zyx859k E, List.forall_mem_cons.mpr ⟨zyx853k E, List.forall_mem_cons.mpr ⟨zyx847k E, List.forall_mem_cons.mpr ⟨zyx841k E, List.forall_mem_cons.mpr ⟨zyx835k E, List.forall_mem_cons.mpr ⟨zyx829k E, List.forall_mem_cons.mpr ⟨zyx823k E, fun _ h => absurd h List.not_mem_nil⟩⟩⟩⟩⟩⟩⟩⟩⟩⟩⟩) zyx883e
/-! X8_heldBy -/
noncomputable def zyx884a : List zAV := [.inr (.inr (.inl 94)), .inl ((.ofNat 1, .ofNat 4), none)]
def zyx884r : Option zAV := some (.inl ((.negSucc 2147483647, .ofNat 2147483647), none))
noncomputable def zyx884p : List zPw := []
noncomputable def zyx884d : zKw := (229, 3, 47, 5700, zyx884a, zyh1167, [(zyx884r, zyh1228)])
set_option maxRecDepth 100000 in
theorem zyx884e : zrunw zprog2 (zovW [zyx883d, zyx877d, zyx810d]) 100000 (zcutW [] none ((zyx884r, zyh1228), 47, 5700) zyx884p) 47 5700 kX8_heldBy (zkin zyx884r zyh1228) 0 (zargs 0 zyx884a, [], (zyh1167.1, zyh1167.2.1, 0), 0, 0) = true := by decide +kernel
theorem zyx884 {l : Launch} {D : va_G} {tys : List (ClassId × FieldType)} {o : zO} {z : Nat} (E : zEnv tys) : zKnW l D vwCl tys o z (zXX o z) zTs zprog2 zyx884d :=
  zkn_mk E (fun g => List.forall_mem_cons.mpr ⟨zyx883 (o := zwith o g) E, List.forall_mem_cons.mpr ⟨zyx877 (o := zwith o g) E, List.forall_mem_cons.mpr ⟨zyx810 (o := zwith o g) E, fun _ h => absurd h List.not_mem_nil⟩⟩⟩) (show zget zprog2 229 = some mX8_heldBy from rfl) rfl (by decide) (by decide) (by decide) (by decide) (G := zyx884p) (fun _ h => absurd h List.not_mem_nil) zyx884e
/-! X8_oneOf -/
noncomputable def zyx885a : List zAV := [zyv320, zyv362, zyv363]
noncomputable def zyx885q : List (Option zAV × zH) := [(some (.inl ((.ofNat 0, .ofNat 0), none)), zyh1229), (some (.inl ((.negSucc 175, .ofNat 79), none)), zyh1230)]
noncomputable def zyx885d : zKw := (260, 3, 4, 480, zyx885a, zyh1164, zyx885q)
set_option maxRecDepth 100000 in
theorem zyx885e : zrunw zprog2 (zovW []) 100000 zcut0 4 480 kX8_oneOf (zkinL zyx885q) 0 (zargs 0 zyx885a, [], (zyh1164.1, zyh1164.2.1, 0), 0, 0) = true := by decide +kernel
theorem zyx885 {l : Launch} {D : va_G} {tys : List (ClassId × FieldType)} {o : zO} {z : Nat} (E : zEnv tys) : zKnW l D vwCl tys o z (zXX o z) zTs zprog2 zyx885d :=
  zkn_ml E (fun g => fun _ h => absurd h List.not_mem_nil) (show zget zprog2 260 = some mX8_oneOf from rfl) rfl (by decide) (by decide) (by decide) (by decide) zyx885e
/-! X8_number -/
noncomputable def zyx886a : List zAV := [.inr (.inr (.inl 94)), .inl ((.ofNat 3, .ofNat 3), none)]
def zyx886r : Option zAV := some (.inl ((.negSucc 2147483647, .ofNat 2147483647), none))
noncomputable def zyx886p : List zPw := [((11, ([(0, .inr (.inr (.inl 94))), (1, .inl ((.ofNat 3, .ofNat 3), some (1, .ofNat 0))), (2, .inl ((.negSucc 2147483647, .ofNat 2147483647), some (2, .ofNat 0))), (3, .inl ((.ofNat 1, .ofNat 3), some (3, .ofNat 0)))], [], zyh1231, 0, 0), [(3, .negSucc 1)], .ofNat 7), (zyx886r, zyh1231), 5, 600)]
noncomputable def zyx886d : zKw := (259, 4, 5, 600, zyx886a, zyh1164, [(zyx886r, zyh1231)])
set_option maxRecDepth 100000 in
theorem zyx886c : zchkX [] zprog2 (zovW [zyx885d]) 100000 kX8_number [] zyx886p zyx886p = true := by decide +kernel
set_option maxRecDepth 100000 in
theorem zyx886e : zrunw zprog2 (zovW [zyx885d]) 100000 (zcutW [] none ((zyx886r, zyh1231), 5, 600) zyx886p) 5 600 kX8_number (zkin zyx886r zyh1231) 0 (zargs 0 zyx886a, [], (zyh1164.1, zyh1164.2.1, 0), 0, 0) = true := by decide +kernel
theorem zyx886 {l : Launch} {D : va_G} {tys : List (ClassId × FieldType)} {o : zO} {z : Nat} (E : zEnv tys) : zKnW l D vwCl tys o z (zXX o z) zTs zprog2 zyx886d :=
  zkn_mk E (fun g => List.forall_mem_cons.mpr ⟨zyx885 (o := zwith o g) E, fun _ h => absurd h List.not_mem_nil⟩) (show zget zprog2 259 = some mX8_number from rfl) rfl (by decide) (by decide) (by decide) (by decide) (G := zyx886p) (zkn_pt E (fun g => List.forall_mem_cons.mpr ⟨zyx885 (o := zwith o g) E, fun _ h => absurd h List.not_mem_nil⟩) (show zget zprog2 259 = some mX8_number from rfl) (fun _ h => absurd h List.not_mem_nil) zyx886c) zyx886e
/-! X8_thing -/
noncomputable def zyx887a : List zAV := [.inr (.inr (.inl 94)), .inl ((.ofNat 0, .ofNat 4), none)]
def zyx887r : Option zAV := some (.inl ((.negSucc 2147483647, .ofNat 2147483647), none))
noncomputable def zyx887p : List zPw := []
noncomputable def zyx887d : zKw := (292, 4, 48, 5820, zyx887a, zyh1164, [(zyx887r, zyh1231)])
set_option maxRecDepth 100000 in
theorem zyx887e : zrunw zprog2 (zovW [zyx886d, zyx884d, zyx881d, zyx809d, zyx810d]) 100000 (zcutW [] none ((zyx887r, zyh1231), 48, 5820) zyx887p) 48 5820 k2X8_thing (zkin zyx887r zyh1231) 0 (zargs 0 zyx887a, [], (zyh1164.1, zyh1164.2.1, 0), 0, 0) = true := by decide +kernel
theorem zyx887 {l : Launch} {D : va_G} {tys : List (ClassId × FieldType)} {o : zO} {z : Nat} (E : zEnv tys) : zKnW l D vwCl tys o z (zXX o z) zTs zprog2 zyx887d :=
  zkn_mk E (fun g => List.forall_mem_cons.mpr ⟨zyx886 (o := zwith o g) E, List.forall_mem_cons.mpr ⟨zyx884 (o := zwith o g) E, List.forall_mem_cons.mpr ⟨zyx881 (o := zwith o g) E, List.forall_mem_cons.mpr ⟨zyx809 (o := zwith o g) E, List.forall_mem_cons.mpr ⟨zyx810 (o := zwith o g) E, fun _ h => absurd h List.not_mem_nil⟩⟩⟩⟩⟩) (show zget zprog2 292 = some m2X8_thing from rfl) rfl (by decide) (by decide) (by decide) (by decide) (G := zyx887p) (fun _ h => absurd h List.not_mem_nil) zyx887e
/-! X8_product ((('r', 103), 40, 29),) -/
noncomputable def zyx888a : List zAV := [.inr (.inr (.inl 94)), .inl ((.ofNat 0, .ofNat 4), none)]
def zyx888r : Option zAV := some (.inl ((.negSucc 2147483647, .ofNat 2147483647), none))
noncomputable def zyx888q : zPw := ((6, ([(0, .inr (.inr (.inl 94))), (1, .inl ((.ofNat 0, .ofNat 4), some (1, .ofNat 0))), (2, .inl ((.negSucc 2147483647, .ofNat 2147483647), some (2, .ofNat 0)))], [], zyh1231, 0, 0), [], 0), (zyx888r, zyh1231), 49, 5940)
set_option maxRecDepth 100000 in
theorem zyx888c : zchkX [(94, 15)] zprog2 (zovW [zyx887d, zyx881d]) 100000 k2X8_product [zyx882q, zyx876q, zyx870q, zyx864q, zyx858q, zyx852q, zyx846q, zyx840q, zyx834q, zyx828q, zyx822q] [zyx888q] [zyx888q] = true := by decide +kernel
theorem zyx888k {l : Launch} {D : va_G} {tys : List (ClassId × FieldType)} {o : zO} {z : Nat} (E : zEnv tys) : zPtOk l D vwCl tys o z (zXX o z) zTs m2X8_product zyx888q := zkn_pt E (fun g => List.forall_mem_cons.mpr ⟨zyx887 (o := zwith o g) E, List.forall_mem_cons.mpr ⟨zyx881 (o := zwith o g) E, fun _ h => absurd h List.not_mem_nil⟩⟩) (show zget zprog2 265 = some m2X8_product from rfl) (List.forall_mem_cons.mpr ⟨zyx882k E, List.forall_mem_cons.mpr ⟨zyx876k E, List.forall_mem_cons.mpr ⟨zyx870k E, List.forall_mem_cons.mpr ⟨zyx864k E, List.forall_mem_cons.mpr ⟨zyx858k E, List.forall_mem_cons.mpr ⟨zyx852k E, List.forall_mem_cons.mpr ⟨zyx846k E, List.forall_mem_cons.mpr ⟨zyx840k E, List.forall_mem_cons.mpr ⟨zyx834k E, List.forall_mem_cons.mpr ⟨zyx828k E, List.forall_mem_cons.mpr ⟨zyx822k E, fun _ h => absurd h List.not_mem_nil⟩⟩⟩⟩⟩⟩⟩⟩⟩⟩⟩) zyx888c _ List.mem_cons_self
noncomputable def zyx888d : zKw := (265, 5, 49, 5940, zyx888a, zyh1164, [(zyx888r, zyh1231)])
set_option maxRecDepth 100000 in
theorem zyx888e : zrunw zprog2 (zovW [zyx887d, zyx881d]) 100000 (zcutW [(94, 15)] none ((zyx888r, zyh1231), 49, 5940) [zyx888q, zyx882q, zyx876q, zyx870q, zyx864q, zyx858q, zyx852q, zyx846q, zyx840q, zyx834q, zyx828q, zyx822q]) 49 5940 k2X8_product (zkin zyx888r zyh1231) 0 (zargs 0 zyx888a, [], (zyh1164.1, zyh1164.2.1, 0), 0, 0) = true := by decide +kernel
theorem zyx888 {l : Launch} {D : va_G} {tys : List (ClassId × FieldType)} {o : zO} {z : Nat} (E : zEnv tys) : zKnW l D vwCl tys o z (zXX o z) zTs zprog2 zyx888d :=
  zkn_mk E (fun g => List.forall_mem_cons.mpr ⟨zyx887 (o := zwith o g) E, List.forall_mem_cons.mpr ⟨zyx881 (o := zwith o g) E, fun _ h => absurd h List.not_mem_nil⟩⟩) (show zget zprog2 265 = some m2X8_product from rfl) rfl (by decide) (by decide) (by decide) (by decide) (G := [zyx888q, zyx882q, zyx876q, zyx870q, zyx864q, zyx858q, zyx852q, zyx846q, zyx840q, zyx834q, zyx828q, zyx822q]) (List.forall_mem_cons.mpr ⟨zyx888k E, List.forall_mem_cons.mpr ⟨zyx882k E, List.forall_mem_cons.mpr ⟨zyx876k E, List.forall_mem_cons.mpr ⟨zyx870k E, List.forall_mem_cons.mpr ⟨zyx864k E, List.forall_mem_cons.mpr ⟨zyx858k E, List.forall_mem_cons.mpr ⟨zyx852k E, List.forall_mem_cons.mpr ⟨zyx846k E, List.forall_mem_cons.mpr ⟨zyx840k E, List.forall_mem_cons.mpr ⟨zyx834k E, List.forall_mem_cons.mpr ⟨zyx828k E, List.forall_mem_cons.mpr ⟨zyx822k E, fun _ h => absurd h List.not_mem_nil⟩⟩⟩⟩⟩⟩⟩⟩⟩⟩⟩⟩) zyx888e
/-! X8_sum ((('r', 103), 40, 29),) -/
noncomputable def zyx889a : List zAV := [.inr (.inr (.inl 94)), .inl ((.ofNat 1, .ofNat 4), none)]
def zyx889r : Option zAV := some (.inl ((.negSucc 2147483647, .ofNat 2147483647), none))
noncomputable def zyx889q : zPw := ((6, ([(0, .inr (.inr (.inl 94))), (1, .inl ((.ofNat 0, .ofNat 4), some (1, .ofNat 0))), (2, .inl ((.negSucc 2147483647, .ofNat 2147483647), some (2, .ofNat 0)))], [], zyh1231, 0, 0), [], 0), (zyx889r, zyh1231), 50, 6060)
set_option maxRecDepth 100000 in
theorem zyx889c : zchkX [(94, 15)] zprog2 (zovW [zyx888d, zyx882d]) 100000 kX8_sum [zyx883q, zyx877q, zyx871q, zyx865q, zyx859q, zyx853q, zyx847q, zyx841q, zyx835q, zyx829q, zyx823q] [zyx889q] [zyx889q] = true := by decide +kernel
theorem zyx889k {l : Launch} {D : va_G} {tys : List (ClassId × FieldType)} {o : zO} {z : Nat} (E : zEnv tys) : zPtOk l D vwCl tys o z (zXX o z) zTs mX8_sum zyx889q := zkn_pt E (fun g => List.forall_mem_cons.mpr ⟨zyx888 (o := zwith o g) E, List.forall_mem_cons.mpr ⟨zyx882 (o := zwith o g) E, fun _ h => absurd h List.not_mem_nil⟩⟩) (show zget zprog2 284 = some mX8_sum from rfl) (List.forall_mem_cons.mpr ⟨zyx883k E, List.forall_mem_cons.mpr ⟨zyx877k E, List.forall_mem_cons.mpr ⟨zyx871k E, List.forall_mem_cons.mpr ⟨zyx865k E, List.forall_mem_cons.mpr ⟨zyx859k E, List.forall_mem_cons.mpr ⟨zyx853k E, List.forall_mem_cons.mpr ⟨zyx847k E, List.forall_mem_cons.mpr ⟨zyx841k E, List.forall_mem_cons.mpr ⟨zyx835k E, List.forall_mem_cons.mpr ⟨zyx829k E, List.forall_mem_cons.mpr ⟨zyx823k E, fun _ h => absurd h List.not_mem_nil⟩⟩⟩⟩⟩⟩⟩⟩⟩⟩⟩) zyx889c _ List.mem_cons_self
noncomputable def zyx889d : zKw := (284, 5, 50, 6060, zyx889a, zyh1164, [(zyx889r, zyh1231)])
set_option maxRecDepth 100000 in
theorem zyx889e : zrunw zprog2 (zovW [zyx888d, zyx882d]) 100000 (zcutW [(94, 15)] none ((zyx889r, zyh1231), 50, 6060) [zyx889q, zyx883q, zyx877q, zyx871q, zyx865q, zyx859q, zyx853q, zyx847q, zyx841q, zyx835q, zyx829q, zyx823q]) 50 6060 kX8_sum (zkin zyx889r zyh1231) 0 (zargs 0 zyx889a, [], (zyh1164.1, zyh1164.2.1, 0), 0, 0) = true := by decide +kernel
theorem zyx889 {l : Launch} {D : va_G} {tys : List (ClassId × FieldType)} {o : zO} {z : Nat} (E : zEnv tys) : zKnW l D vwCl tys o z (zXX o z) zTs zprog2 zyx889d :=
  zkn_mk E (fun g => List.forall_mem_cons.mpr ⟨zyx888 (o := zwith o g) E, List.forall_mem_cons.mpr ⟨zyx882 (o := zwith o g) E, fun _ h => absurd h List.not_mem_nil⟩⟩) (show zget zprog2 284 = some mX8_sum from rfl) rfl (by decide) (by decide) (by decide) (by decide) (G := [zyx889q, zyx883q, zyx877q, zyx871q, zyx865q, zyx859q, zyx853q, zyx847q, zyx841q, zyx835q, zyx829q, zyx823q]) (List.forall_mem_cons.mpr ⟨zyx889k E, List.forall_mem_cons.mpr ⟨zyx883k E, List.forall_mem_cons.mpr ⟨zyx877k E, List.forall_mem_cons.mpr ⟨zyx871k E, List.forall_mem_cons.mpr ⟨zyx865k E, List.forall_mem_cons.mpr ⟨zyx859k E, List.forall_mem_cons.mpr ⟨zyx853k E, List.forall_mem_cons.mpr ⟨zyx847k E, List.forall_mem_cons.mpr ⟨zyx841k E, List.forall_mem_cons.mpr ⟨zyx835k E, List.forall_mem_cons.mpr ⟨zyx829k E, List.forall_mem_cons.mpr ⟨zyx823k E, fun _ h => absurd h List.not_mem_nil⟩⟩⟩⟩⟩⟩⟩⟩⟩⟩⟩⟩) zyx889e
/-! X8_heldBy -/
noncomputable def zyx890a : List zAV := [.inr (.inr (.inl 94)), .inl ((.ofNat 1, .ofNat 4), none)]
def zyx890r : Option zAV := some (.inl ((.negSucc 2147483647, .ofNat 2147483647), none))
noncomputable def zyx890p : List zPw := []
noncomputable def zyx890d : zKw := (229, 3, 51, 6180, zyx890a, zyh1164, [(zyx890r, zyh1231)])
set_option maxRecDepth 100000 in
theorem zyx890e : zrunw zprog2 (zovW [zyx889d, zyx883d, zyx809d]) 100000 (zcutW [] none ((zyx890r, zyh1231), 51, 6180) zyx890p) 51 6180 kX8_heldBy (zkin zyx890r zyh1231) 0 (zargs 0 zyx890a, [], (zyh1164.1, zyh1164.2.1, 0), 0, 0) = true := by decide +kernel
theorem zyx890 {l : Launch} {D : va_G} {tys : List (ClassId × FieldType)} {o : zO} {z : Nat} (E : zEnv tys) : zKnW l D vwCl tys o z (zXX o z) zTs zprog2 zyx890d :=
  zkn_mk E (fun g => List.forall_mem_cons.mpr ⟨zyx889 (o := zwith o g) E, List.forall_mem_cons.mpr ⟨zyx883 (o := zwith o g) E, List.forall_mem_cons.mpr ⟨zyx809 (o := zwith o g) E, fun _ h => absurd h List.not_mem_nil⟩⟩⟩) (show zget zprog2 229 = some mX8_heldBy from rfl) rfl (by decide) (by decide) (by decide) (by decide) (G := zyx890p) (fun _ h => absurd h List.not_mem_nil) zyx890e
/-! X8_oneOf -/
noncomputable def zyx891a : List zAV := [zyv320, zyv362, zyv363]
noncomputable def zyx891q : List (Option zAV × zH) := [(some (.inl ((.ofNat 0, .ofNat 0), none)), zyh1232), (some (.inl ((.negSucc 175, .ofNat 79), none)), zyh1233)]
noncomputable def zyx891d : zKw := (260, 3, 4, 480, zyx891a, zyh1161, zyx891q)
set_option maxRecDepth 100000 in
theorem zyx891e : zrunw zprog2 (zovW []) 100000 zcut0 4 480 kX8_oneOf (zkinL zyx891q) 0 (zargs 0 zyx891a, [], (zyh1161.1, zyh1161.2.1, 0), 0, 0) = true := by decide +kernel
theorem zyx891 {l : Launch} {D : va_G} {tys : List (ClassId × FieldType)} {o : zO} {z : Nat} (E : zEnv tys) : zKnW l D vwCl tys o z (zXX o z) zTs zprog2 zyx891d :=
  zkn_ml E (fun g => fun _ h => absurd h List.not_mem_nil) (show zget zprog2 260 = some mX8_oneOf from rfl) rfl (by decide) (by decide) (by decide) (by decide) zyx891e
/-! X8_number -/
noncomputable def zyx892a : List zAV := [.inr (.inr (.inl 94)), .inl ((.ofNat 3, .ofNat 3), none)]
def zyx892r : Option zAV := some (.inl ((.negSucc 2147483647, .ofNat 2147483647), none))
noncomputable def zyx892p : List zPw := [((11, ([(0, .inr (.inr (.inl 94))), (1, .inl ((.ofNat 3, .ofNat 3), some (1, .ofNat 0))), (2, .inl ((.negSucc 2147483647, .ofNat 2147483647), some (2, .ofNat 0))), (3, .inl ((.ofNat 1, .ofNat 3), some (3, .ofNat 0)))], [], zyh1234, 0, 0), [(3, .negSucc 1)], .ofNat 7), (zyx892r, zyh1234), 5, 600)]
noncomputable def zyx892d : zKw := (259, 4, 5, 600, zyx892a, zyh1161, [(zyx892r, zyh1234)])
set_option maxRecDepth 100000 in
theorem zyx892c : zchkX [] zprog2 (zovW [zyx891d]) 100000 kX8_number [] zyx892p zyx892p = true := by decide +kernel
set_option maxRecDepth 100000 in
theorem zyx892e : zrunw zprog2 (zovW [zyx891d]) 100000 (zcutW [] none ((zyx892r, zyh1234), 5, 600) zyx892p) 5 600 kX8_number (zkin zyx892r zyh1234) 0 (zargs 0 zyx892a, [], (zyh1161.1, zyh1161.2.1, 0), 0, 0) = true := by decide +kernel
theorem zyx892 {l : Launch} {D : va_G} {tys : List (ClassId × FieldType)} {o : zO} {z : Nat} (E : zEnv tys) : zKnW l D vwCl tys o z (zXX o z) zTs zprog2 zyx892d :=
  zkn_mk E (fun g => List.forall_mem_cons.mpr ⟨zyx891 (o := zwith o g) E, fun _ h => absurd h List.not_mem_nil⟩) (show zget zprog2 259 = some mX8_number from rfl) rfl (by decide) (by decide) (by decide) (by decide) (G := zyx892p) (zkn_pt E (fun g => List.forall_mem_cons.mpr ⟨zyx891 (o := zwith o g) E, fun _ h => absurd h List.not_mem_nil⟩) (show zget zprog2 259 = some mX8_number from rfl) (fun _ h => absurd h List.not_mem_nil) zyx892c) zyx892e
/-! X8_thing -/
noncomputable def zyx893a : List zAV := [.inr (.inr (.inl 94)), .inl ((.ofNat 0, .ofNat 4), none)]
def zyx893r : Option zAV := some (.inl ((.negSucc 2147483647, .ofNat 2147483647), none))
noncomputable def zyx893p : List zPw := []
noncomputable def zyx893d : zKw := (292, 4, 52, 6300, zyx893a, zyh1161, [(zyx893r, zyh1234)])
set_option maxRecDepth 100000 in
theorem zyx893e : zrunw zprog2 (zovW [zyx892d, zyx890d, zyx887d, zyx808d, zyx809d]) 100000 (zcutW [] none ((zyx893r, zyh1234), 52, 6300) zyx893p) 52 6300 k2X8_thing (zkin zyx893r zyh1234) 0 (zargs 0 zyx893a, [], (zyh1161.1, zyh1161.2.1, 0), 0, 0) = true := by decide +kernel
theorem zyx893 {l : Launch} {D : va_G} {tys : List (ClassId × FieldType)} {o : zO} {z : Nat} (E : zEnv tys) : zKnW l D vwCl tys o z (zXX o z) zTs zprog2 zyx893d :=
  zkn_mk E (fun g => List.forall_mem_cons.mpr ⟨zyx892 (o := zwith o g) E, List.forall_mem_cons.mpr ⟨zyx890 (o := zwith o g) E, List.forall_mem_cons.mpr ⟨zyx887 (o := zwith o g) E, List.forall_mem_cons.mpr ⟨zyx808 (o := zwith o g) E, List.forall_mem_cons.mpr ⟨zyx809 (o := zwith o g) E, fun _ h => absurd h List.not_mem_nil⟩⟩⟩⟩⟩) (show zget zprog2 292 = some m2X8_thing from rfl) rfl (by decide) (by decide) (by decide) (by decide) (G := zyx893p) (fun _ h => absurd h List.not_mem_nil) zyx893e
/-! X8_product ((('r', 103), 40, 28),) -/
noncomputable def zyx894a : List zAV := [.inr (.inr (.inl 94)), .inl ((.ofNat 0, .ofNat 4), none)]
def zyx894r : Option zAV := some (.inl ((.negSucc 2147483647, .ofNat 2147483647), none))
noncomputable def zyx894q : zPw := ((6, ([(0, .inr (.inr (.inl 94))), (1, .inl ((.ofNat 0, .ofNat 4), some (1, .ofNat 0))), (2, .inl ((.negSucc 2147483647, .ofNat 2147483647), some (2, .ofNat 0)))], [], zyh1234, 0, 0), [], 0), (zyx894r, zyh1234), 53, 6420)
set_option maxRecDepth 100000 in
theorem zyx894c : zchkX [(94, 15)] zprog2 (zovW [zyx893d, zyx887d]) 100000 k2X8_product [zyx888q, zyx882q, zyx876q, zyx870q, zyx864q, zyx858q, zyx852q, zyx846q, zyx840q, zyx834q, zyx828q, zyx822q] [zyx894q] [zyx894q] = true := by decide +kernel
theorem zyx894k {l : Launch} {D : va_G} {tys : List (ClassId × FieldType)} {o : zO} {z : Nat} (E : zEnv tys) : zPtOk l D vwCl tys o z (zXX o z) zTs m2X8_product zyx894q := zkn_pt E (fun g => List.forall_mem_cons.mpr ⟨zyx893 (o := zwith o g) E, List.forall_mem_cons.mpr ⟨zyx887 (o := zwith o g) E, fun _ h => absurd h List.not_mem_nil⟩⟩) (show zget zprog2 265 = some m2X8_product from rfl) (List.forall_mem_cons.mpr ⟨zyx888k E, List.forall_mem_cons.mpr ⟨zyx882k E, List.forall_mem_cons.mpr ⟨zyx876k E, List.forall_mem_cons.mpr ⟨zyx870k E, List.forall_mem_cons.mpr ⟨zyx864k E, List.forall_mem_cons.mpr ⟨zyx858k E, List.forall_mem_cons.mpr ⟨zyx852k E, List.forall_mem_cons.mpr ⟨zyx846k E, List.forall_mem_cons.mpr ⟨zyx840k E, List.forall_mem_cons.mpr ⟨zyx834k E, List.forall_mem_cons.mpr ⟨zyx828k E, List.forall_mem_cons.mpr ⟨zyx822k E, fun _ h => absurd h List.not_mem_nil⟩⟩⟩⟩⟩⟩⟩⟩⟩⟩⟩⟩) zyx894c _ List.mem_cons_self
noncomputable def zyx894d : zKw := (265, 5, 53, 6420, zyx894a, zyh1161, [(zyx894r, zyh1234)])
set_option maxRecDepth 100000 in
theorem zyx894e : zrunw zprog2 (zovW [zyx893d, zyx887d]) 100000 (zcutW [(94, 15)] none ((zyx894r, zyh1234), 53, 6420) [zyx894q, zyx888q, zyx882q, zyx876q, zyx870q, zyx864q, zyx858q, zyx852q, zyx846q, zyx840q, zyx834q, zyx828q, zyx822q]) 53 6420 k2X8_product (zkin zyx894r zyh1234) 0 (zargs 0 zyx894a, [], (zyh1161.1, zyh1161.2.1, 0), 0, 0) = true := by decide +kernel
theorem zyx894 {l : Launch} {D : va_G} {tys : List (ClassId × FieldType)} {o : zO} {z : Nat} (E : zEnv tys) : zKnW l D vwCl tys o z (zXX o z) zTs zprog2 zyx894d :=
  zkn_mk E (fun g => List.forall_mem_cons.mpr ⟨zyx893 (o := zwith o g) E, List.forall_mem_cons.mpr ⟨zyx887 (o := zwith o g) E, fun _ h => absurd h List.not_mem_nil⟩⟩) (show zget zprog2 265 = some m2X8_product from rfl) rfl (by decide) (by decide) (by decide) (by decide) (G := [zyx894q, zyx888q, zyx882q, zyx876q, zyx870q, zyx864q, zyx858q, zyx852q, zyx846q, zyx840q, zyx834q, zyx828q, zyx822q]) (List.forall_mem_cons.mpr ⟨zyx894k E, List.forall_mem_cons.mpr ⟨zyx888k E, List.forall_mem_cons.mpr ⟨zyx882k E, List.forall_mem_cons.mpr ⟨zyx876k E, List.forall_mem_cons.mpr ⟨zyx870k E, List.forall_mem_cons.mpr ⟨zyx864k E, List.forall_mem_cons.mpr ⟨zyx858k E, List.forall_mem_cons.mpr ⟨zyx852k E, List.forall_mem_cons.mpr ⟨zyx846k E, List.forall_mem_cons.mpr ⟨zyx840k E, List.forall_mem_cons.mpr ⟨zyx834k E, List.forall_mem_cons.mpr ⟨zyx828k E, List.forall_mem_cons.mpr ⟨zyx822k E, fun _ h => absurd h List.not_mem_nil⟩⟩⟩⟩⟩⟩⟩⟩⟩⟩⟩⟩⟩) zyx894e
/-! X8_sum ((('r', 103), 40, 28),) -/
noncomputable def zyx895a : List zAV := [.inr (.inr (.inl 94)), .inl ((.ofNat 1, .ofNat 4), none)]
def zyx895r : Option zAV := some (.inl ((.negSucc 2147483647, .ofNat 2147483647), none))
noncomputable def zyx895q : zPw := ((6, ([(0, .inr (.inr (.inl 94))), (1, .inl ((.ofNat 0, .ofNat 4), some (1, .ofNat 0))), (2, .inl ((.negSucc 2147483647, .ofNat 2147483647), some (2, .ofNat 0)))], [], zyh1234, 0, 0), [], 0), (zyx895r, zyh1234), 54, 6540)
set_option maxRecDepth 100000 in
theorem zyx895c : zchkX [(94, 15)] zprog2 (zovW [zyx894d, zyx888d]) 100000 kX8_sum [zyx889q, zyx883q, zyx877q, zyx871q, zyx865q, zyx859q, zyx853q, zyx847q, zyx841q, zyx835q, zyx829q, zyx823q] [zyx895q] [zyx895q] = true := by decide +kernel
theorem zyx895k {l : Launch} {D : va_G} {tys : List (ClassId × FieldType)} {o : zO} {z : Nat} (E : zEnv tys) : zPtOk l D vwCl tys o z (zXX o z) zTs mX8_sum zyx895q := zkn_pt E (fun g => List.forall_mem_cons.mpr ⟨zyx894 (o := zwith o g) E, List.forall_mem_cons.mpr ⟨zyx888 (o := zwith o g) E, fun _ h => absurd h List.not_mem_nil⟩⟩) (show zget zprog2 284 = some mX8_sum from rfl) (List.forall_mem_cons.mpr ⟨zyx889k E, List.forall_mem_cons.mpr ⟨zyx883k E, List.forall_mem_cons.mpr ⟨zyx877k E, List.forall_mem_cons.mpr ⟨zyx871k E, List.forall_mem_cons.mpr ⟨zyx865k E, List.forall_mem_cons.mpr ⟨zyx859k E, List.forall_mem_cons.mpr ⟨zyx853k E, List.forall_mem_cons.mpr ⟨zyx847k E, List.forall_mem_cons.mpr ⟨zyx841k E, List.forall_mem_cons.mpr ⟨zyx835k E, List.forall_mem_cons.mpr ⟨zyx829k E, List.forall_mem_cons.mpr ⟨zyx823k E, fun _ h => absurd h List.not_mem_nil⟩⟩⟩⟩⟩⟩⟩⟩⟩⟩⟩⟩) zyx895c _ List.mem_cons_self
noncomputable def zyx895d : zKw := (284, 5, 54, 6540, zyx895a, zyh1161, [(zyx895r, zyh1234)])
set_option maxRecDepth 100000 in
theorem zyx895e : zrunw zprog2 (zovW [zyx894d, zyx888d]) 100000 (zcutW [(94, 15)] none ((zyx895r, zyh1234), 54, 6540) [zyx895q, zyx889q, zyx883q, zyx877q, zyx871q, zyx865q, zyx859q, zyx853q, zyx847q, zyx841q, zyx835q, zyx829q, zyx823q]) 54 6540 kX8_sum (zkin zyx895r zyh1234) 0 (zargs 0 zyx895a, [], (zyh1161.1, zyh1161.2.1, 0), 0, 0) = true := by decide +kernel
theorem zyx895 {l : Launch} {D : va_G} {tys : List (ClassId × FieldType)} {o : zO} {z : Nat} (E : zEnv tys) : zKnW l D vwCl tys o z (zXX o z) zTs zprog2 zyx895d :=
  zkn_mk E (fun g => List.forall_mem_cons.mpr ⟨zyx894 (o := zwith o g) E, List.forall_mem_cons.mpr ⟨zyx888 (o := zwith o g) E, fun _ h => absurd h List.not_mem_nil⟩⟩) (show zget zprog2 284 = some mX8_sum from rfl) rfl (by decide) (by decide) (by decide) (by decide) (G := [zyx895q, zyx889q, zyx883q, zyx877q, zyx871q, zyx865q, zyx859q, zyx853q, zyx847q, zyx841q, zyx835q, zyx829q, zyx823q]) (List.forall_mem_cons.mpr ⟨zyx895k E, List.forall_mem_cons.mpr ⟨zyx889k E, List.forall_mem_cons.mpr ⟨zyx883k E, List.forall_mem_cons.mpr ⟨zyx877k E, List.forall_mem_cons.mpr ⟨zyx871k E, List.forall_mem_cons.mpr ⟨zyx865k E, List.forall_mem_cons.mpr ⟨zyx859k E, List.forall_mem_cons.mpr ⟨zyx853k E, List.forall_mem_cons.mpr ⟨zyx847k E, List.forall_mem_cons.mpr ⟨zyx841k E, List.forall_mem_cons.mpr ⟨zyx835k E, List.forall_mem_cons.mpr ⟨zyx829k E, List.forall_mem_cons.mpr ⟨zyx823k E, fun _ h => absurd h List.not_mem_nil⟩⟩⟩⟩⟩⟩⟩⟩⟩⟩⟩⟩⟩) zyx895e
/-! X8_heldBy -/
noncomputable def zyx896a : List zAV := [.inr (.inr (.inl 94)), .inl ((.ofNat 1, .ofNat 4), none)]
def zyx896r : Option zAV := some (.inl ((.negSucc 2147483647, .ofNat 2147483647), none))
noncomputable def zyx896p : List zPw := []
noncomputable def zyx896d : zKw := (229, 3, 55, 6660, zyx896a, zyh1161, [(zyx896r, zyh1234)])
set_option maxRecDepth 100000 in
theorem zyx896e : zrunw zprog2 (zovW [zyx895d, zyx889d, zyx808d]) 100000 (zcutW [] none ((zyx896r, zyh1234), 55, 6660) zyx896p) 55 6660 kX8_heldBy (zkin zyx896r zyh1234) 0 (zargs 0 zyx896a, [], (zyh1161.1, zyh1161.2.1, 0), 0, 0) = true := by decide +kernel
theorem zyx896 {l : Launch} {D : va_G} {tys : List (ClassId × FieldType)} {o : zO} {z : Nat} (E : zEnv tys) : zKnW l D vwCl tys o z (zXX o z) zTs zprog2 zyx896d :=
  zkn_mk E (fun g => List.forall_mem_cons.mpr ⟨zyx895 (o := zwith o g) E, List.forall_mem_cons.mpr ⟨zyx889 (o := zwith o g) E, List.forall_mem_cons.mpr ⟨zyx808 (o := zwith o g) E, fun _ h => absurd h List.not_mem_nil⟩⟩⟩) (show zget zprog2 229 = some mX8_heldBy from rfl) rfl (by decide) (by decide) (by decide) (by decide) (G := zyx896p) (fun _ h => absurd h List.not_mem_nil) zyx896e
/-! X8_oneOf -/
noncomputable def zyx897a : List zAV := [zyv320, zyv362, zyv363]
noncomputable def zyx897q : List (Option zAV × zH) := [(some (.inl ((.ofNat 0, .ofNat 0), none)), zyh1235), (some (.inl ((.negSucc 175, .ofNat 79), none)), zyh1236)]
noncomputable def zyx897d : zKw := (260, 3, 4, 480, zyx897a, zyh1158, zyx897q)
set_option maxRecDepth 100000 in
theorem zyx897e : zrunw zprog2 (zovW []) 100000 zcut0 4 480 kX8_oneOf (zkinL zyx897q) 0 (zargs 0 zyx897a, [], (zyh1158.1, zyh1158.2.1, 0), 0, 0) = true := by decide +kernel
theorem zyx897 {l : Launch} {D : va_G} {tys : List (ClassId × FieldType)} {o : zO} {z : Nat} (E : zEnv tys) : zKnW l D vwCl tys o z (zXX o z) zTs zprog2 zyx897d :=
  zkn_ml E (fun g => fun _ h => absurd h List.not_mem_nil) (show zget zprog2 260 = some mX8_oneOf from rfl) rfl (by decide) (by decide) (by decide) (by decide) zyx897e
/-! X8_number -/
noncomputable def zyx898a : List zAV := [.inr (.inr (.inl 94)), .inl ((.ofNat 3, .ofNat 3), none)]
def zyx898r : Option zAV := some (.inl ((.negSucc 2147483647, .ofNat 2147483647), none))
noncomputable def zyx898p : List zPw := [((11, ([(0, .inr (.inr (.inl 94))), (1, .inl ((.ofNat 3, .ofNat 3), some (1, .ofNat 0))), (2, .inl ((.negSucc 2147483647, .ofNat 2147483647), some (2, .ofNat 0))), (3, .inl ((.ofNat 1, .ofNat 3), some (3, .ofNat 0)))], [], zyh1237, 0, 0), [(3, .negSucc 1)], .ofNat 7), (zyx898r, zyh1237), 5, 600)]
noncomputable def zyx898d : zKw := (259, 4, 5, 600, zyx898a, zyh1158, [(zyx898r, zyh1237)])
set_option maxRecDepth 100000 in
theorem zyx898c : zchkX [] zprog2 (zovW [zyx897d]) 100000 kX8_number [] zyx898p zyx898p = true := by decide +kernel
set_option maxRecDepth 100000 in
theorem zyx898e : zrunw zprog2 (zovW [zyx897d]) 100000 (zcutW [] none ((zyx898r, zyh1237), 5, 600) zyx898p) 5 600 kX8_number (zkin zyx898r zyh1237) 0 (zargs 0 zyx898a, [], (zyh1158.1, zyh1158.2.1, 0), 0, 0) = true := by decide +kernel
theorem zyx898 {l : Launch} {D : va_G} {tys : List (ClassId × FieldType)} {o : zO} {z : Nat} (E : zEnv tys) : zKnW l D vwCl tys o z (zXX o z) zTs zprog2 zyx898d :=
  zkn_mk E (fun g => List.forall_mem_cons.mpr ⟨zyx897 (o := zwith o g) E, fun _ h => absurd h List.not_mem_nil⟩) (show zget zprog2 259 = some mX8_number from rfl) rfl (by decide) (by decide) (by decide) (by decide) (G := zyx898p) (zkn_pt E (fun g => List.forall_mem_cons.mpr ⟨zyx897 (o := zwith o g) E, fun _ h => absurd h List.not_mem_nil⟩) (show zget zprog2 259 = some mX8_number from rfl) (fun _ h => absurd h List.not_mem_nil) zyx898c) zyx898e
/-! X8_thing -/
noncomputable def zyx899a : List zAV := [.inr (.inr (.inl 94)), .inl ((.ofNat 0, .ofNat 4), none)]
def zyx899r : Option zAV := some (.inl ((.negSucc 2147483647, .ofNat 2147483647), none))
noncomputable def zyx899p : List zPw := []
noncomputable def zyx899d : zKw := (292, 4, 56, 6780, zyx899a, zyh1158, [(zyx899r, zyh1237)])
set_option maxRecDepth 100000 in
theorem zyx899e : zrunw zprog2 (zovW [zyx898d, zyx896d, zyx893d, zyx807d, zyx808d]) 100000 (zcutW [] none ((zyx899r, zyh1237), 56, 6780) zyx899p) 56 6780 k2X8_thing (zkin zyx899r zyh1237) 0 (zargs 0 zyx899a, [], (zyh1158.1, zyh1158.2.1, 0), 0, 0) = true := by decide +kernel
theorem zyx899 {l : Launch} {D : va_G} {tys : List (ClassId × FieldType)} {o : zO} {z : Nat} (E : zEnv tys) : zKnW l D vwCl tys o z (zXX o z) zTs zprog2 zyx899d :=
  zkn_mk E (fun g => List.forall_mem_cons.mpr ⟨zyx898 (o := zwith o g) E, List.forall_mem_cons.mpr ⟨zyx896 (o := zwith o g) E, List.forall_mem_cons.mpr ⟨zyx893 (o := zwith o g) E, List.forall_mem_cons.mpr ⟨zyx807 (o := zwith o g) E, List.forall_mem_cons.mpr ⟨zyx808 (o := zwith o g) E, fun _ h => absurd h List.not_mem_nil⟩⟩⟩⟩⟩) (show zget zprog2 292 = some m2X8_thing from rfl) rfl (by decide) (by decide) (by decide) (by decide) (G := zyx899p) (fun _ h => absurd h List.not_mem_nil) zyx899e
/-! X8_product ((('r', 103), 40, 27),) -/
noncomputable def zyx900a : List zAV := [.inr (.inr (.inl 94)), .inl ((.ofNat 0, .ofNat 4), none)]
def zyx900r : Option zAV := some (.inl ((.negSucc 2147483647, .ofNat 2147483647), none))
noncomputable def zyx900q : zPw := ((6, ([(0, .inr (.inr (.inl 94))), (1, .inl ((.ofNat 0, .ofNat 4), some (1, .ofNat 0))), (2, .inl ((.negSucc 2147483647, .ofNat 2147483647), some (2, .ofNat 0)))], [], zyh1237, 0, 0), [], 0), (zyx900r, zyh1237), 57, 6900)
set_option maxRecDepth 100000 in
theorem zyx900c : zchkX [(94, 15)] zprog2 (zovW [zyx899d, zyx893d]) 100000 k2X8_product [zyx894q, zyx888q, zyx882q, zyx876q, zyx870q, zyx864q, zyx858q, zyx852q, zyx846q, zyx840q, zyx834q, zyx828q, zyx822q] [zyx900q] [zyx900q] = true := by decide +kernel
theorem zyx900k {l : Launch} {D : va_G} {tys : List (ClassId × FieldType)} {o : zO} {z : Nat} (E : zEnv tys) : zPtOk l D vwCl tys o z (zXX o z) zTs m2X8_product zyx900q := zkn_pt E (fun g => List.forall_mem_cons.mpr ⟨zyx899 (o := zwith o g) E, List.forall_mem_cons.mpr ⟨zyx893 (o := zwith o g) E, fun _ h => absurd h List.not_mem_nil⟩⟩) (show zget zprog2 265 = some m2X8_product from rfl) (List.forall_mem_cons.mpr ⟨zyx894k E, List.forall_mem_cons.mpr ⟨zyx888k E, List.forall_mem_cons.mpr ⟨zyx882k E, List.forall_mem_cons.mpr ⟨zyx876k E, List.forall_mem_cons.mpr ⟨zyx870k E, List.forall_mem_cons.mpr ⟨zyx864k E, List.forall_mem_cons.mpr ⟨zyx858k E, List.forall_mem_cons.mpr ⟨zyx852k E, List.forall_mem_cons.mpr ⟨zyx846k E, List.forall_mem_cons.mpr ⟨zyx840k E, List.forall_mem_cons.mpr ⟨zyx834k E, List.forall_mem_cons.mpr ⟨zyx828k E, List.forall_mem_cons.mpr ⟨zyx822k E, fun _ h => absurd h List.not_mem_nil⟩⟩⟩⟩⟩⟩⟩⟩⟩⟩⟩⟩⟩) zyx900c _ List.mem_cons_self
noncomputable def zyx900d : zKw := (265, 5, 57, 6900, zyx900a, zyh1158, [(zyx900r, zyh1237)])
set_option maxRecDepth 100000 in
theorem zyx900e : zrunw zprog2 (zovW [zyx899d, zyx893d]) 100000 (zcutW [(94, 15)] none ((zyx900r, zyh1237), 57, 6900) [zyx900q, zyx894q, zyx888q, zyx882q, zyx876q, zyx870q, zyx864q, zyx858q, zyx852q, zyx846q, zyx840q, zyx834q, zyx828q, zyx822q]) 57 6900 k2X8_product (zkin zyx900r zyh1237) 0 (zargs 0 zyx900a, [], (zyh1158.1, zyh1158.2.1, 0), 0, 0) = true := by decide +kernel
theorem zyx900 {l : Launch} {D : va_G} {tys : List (ClassId × FieldType)} {o : zO} {z : Nat} (E : zEnv tys) : zKnW l D vwCl tys o z (zXX o z) zTs zprog2 zyx900d :=
  zkn_mk E (fun g => List.forall_mem_cons.mpr ⟨zyx899 (o := zwith o g) E, List.forall_mem_cons.mpr ⟨zyx893 (o := zwith o g) E, fun _ h => absurd h List.not_mem_nil⟩⟩) (show zget zprog2 265 = some m2X8_product from rfl) rfl (by decide) (by decide) (by decide) (by decide) (G := [zyx900q, zyx894q, zyx888q, zyx882q, zyx876q, zyx870q, zyx864q, zyx858q, zyx852q, zyx846q, zyx840q, zyx834q, zyx828q, zyx822q]) (List.forall_mem_cons.mpr ⟨zyx900k E, List.forall_mem_cons.mpr ⟨zyx894k E, List.forall_mem_cons.mpr ⟨zyx888k E, List.forall_mem_cons.mpr ⟨zyx882k E, List.forall_mem_cons.mpr ⟨zyx876k E, List.forall_mem_cons.mpr ⟨zyx870k E, List.forall_mem_cons.mpr ⟨zyx864k E, List.forall_mem_cons.mpr ⟨zyx858k E, List.forall_mem_cons.mpr ⟨zyx852k E, List.forall_mem_cons.mpr ⟨zyx846k E, List.forall_mem_cons.mpr ⟨zyx840k E, List.forall_mem_cons.mpr ⟨zyx834k E, List.forall_mem_cons.mpr ⟨zyx828k E, List.forall_mem_cons.mpr ⟨zyx822k E, fun _ h => absurd h List.not_mem_nil⟩⟩⟩⟩⟩⟩⟩⟩⟩⟩⟩⟩⟩⟩) zyx900e
/-! X8_sum ((('r', 103), 40, 27),) -/
noncomputable def zyx901a : List zAV := [.inr (.inr (.inl 94)), .inl ((.ofNat 1, .ofNat 4), none)]
def zyx901r : Option zAV := some (.inl ((.negSucc 2147483647, .ofNat 2147483647), none))
noncomputable def zyx901q : zPw := ((6, ([(0, .inr (.inr (.inl 94))), (1, .inl ((.ofNat 0, .ofNat 4), some (1, .ofNat 0))), (2, .inl ((.negSucc 2147483647, .ofNat 2147483647), some (2, .ofNat 0)))], [], zyh1237, 0, 0), [], 0), (zyx901r, zyh1237), 58, 7020)
set_option maxRecDepth 100000 in
theorem zyx901c : zchkX [(94, 15)] zprog2 (zovW [zyx900d, zyx894d]) 100000 kX8_sum [zyx895q, zyx889q, zyx883q, zyx877q, zyx871q, zyx865q, zyx859q, zyx853q, zyx847q, zyx841q, zyx835q, zyx829q, zyx823q] [zyx901q] [zyx901q] = true := by decide +kernel
theorem zyx901k {l : Launch} {D : va_G} {tys : List (ClassId × FieldType)} {o : zO} {z : Nat} (E : zEnv tys) : zPtOk l D vwCl tys o z (zXX o z) zTs mX8_sum zyx901q := zkn_pt E (fun g => List.forall_mem_cons.mpr ⟨zyx900 (o := zwith o g) E, List.forall_mem_cons.mpr ⟨zyx894 (o := zwith o g) E, fun _ h => absurd h List.not_mem_nil⟩⟩) (show zget zprog2 284 = some mX8_sum from rfl) (List.forall_mem_cons.mpr ⟨zyx895k E, List.forall_mem_cons.mpr ⟨zyx889k E, List.forall_mem_cons.mpr ⟨zyx883k E, List.forall_mem_cons.mpr ⟨zyx877k E, List.forall_mem_cons.mpr ⟨zyx871k E, List.forall_mem_cons.mpr ⟨zyx865k E, List.forall_mem_cons.mpr ⟨zyx859k E, List.forall_mem_cons.mpr ⟨zyx853k E, List.forall_mem_cons.mpr ⟨zyx847k E, List.forall_mem_cons.mpr ⟨zyx841k E, List.forall_mem_cons.mpr ⟨zyx835k E, List.forall_mem_cons.mpr ⟨zyx829k E, List.forall_mem_cons.mpr ⟨zyx823k E, fun _ h => absurd h List.not_mem_nil⟩⟩⟩⟩⟩⟩⟩⟩⟩⟩⟩⟩⟩) zyx901c _ List.mem_cons_self
noncomputable def zyx901d : zKw := (284, 5, 58, 7020, zyx901a, zyh1158, [(zyx901r, zyh1237)])
set_option maxRecDepth 100000 in
theorem zyx901e : zrunw zprog2 (zovW [zyx900d, zyx894d]) 100000 (zcutW [(94, 15)] none ((zyx901r, zyh1237), 58, 7020) [zyx901q, zyx895q, zyx889q, zyx883q, zyx877q, zyx871q, zyx865q, zyx859q, zyx853q, zyx847q, zyx841q, zyx835q, zyx829q, zyx823q]) 58 7020 kX8_sum (zkin zyx901r zyh1237) 0 (zargs 0 zyx901a, [], (zyh1158.1, zyh1158.2.1, 0), 0, 0) = true := by decide +kernel
theorem zyx901 {l : Launch} {D : va_G} {tys : List (ClassId × FieldType)} {o : zO} {z : Nat} (E : zEnv tys) : zKnW l D vwCl tys o z (zXX o z) zTs zprog2 zyx901d :=
  zkn_mk E (fun g => List.forall_mem_cons.mpr ⟨zyx900 (o := zwith o g) E, List.forall_mem_cons.mpr ⟨zyx894 (o := zwith o g) E, fun _ h => absurd h List.not_mem_nil⟩⟩) (show zget zprog2 284 = some mX8_sum from rfl) rfl (by decide) (by decide) (by decide) (by decide) (G := [zyx901q, zyx895q, zyx889q, zyx883q, zyx877q, zyx871q, zyx865q, zyx859q, zyx853q, zyx847q, zyx841q, zyx835q, zyx829q, zyx823q]) (List.forall_mem_cons.mpr ⟨zyx901k E, List.forall_mem_cons.mpr ⟨zyx895k E, List.forall_mem_cons.mpr ⟨zyx889k E, List.forall_mem_cons.mpr ⟨zyx883k E, List.forall_mem_cons.mpr ⟨zyx877k E, List.forall_mem_cons.mpr ⟨zyx871k E, List.forall_mem_cons.mpr ⟨zyx865k E, List.forall_mem_cons.mpr ⟨zyx859k E, List.forall_mem_cons.mpr ⟨zyx853k E, List.forall_mem_cons.mpr ⟨zyx847k E, List.forall_mem_cons.mpr ⟨zyx841k E, List.forall_mem_cons.mpr ⟨zyx835k E, List.forall_mem_cons.mpr ⟨zyx829k E, List.forall_mem_cons.mpr ⟨zyx823k E, fun _ h => absurd h List.not_mem_nil⟩⟩⟩⟩⟩⟩⟩⟩⟩⟩⟩⟩⟩⟩) zyx901e
/-! X8_heldBy -/
noncomputable def zyx902a : List zAV := [.inr (.inr (.inl 94)), .inl ((.ofNat 1, .ofNat 4), none)]
def zyx902r : Option zAV := some (.inl ((.negSucc 2147483647, .ofNat 2147483647), none))
noncomputable def zyx902p : List zPw := []
noncomputable def zyx902d : zKw := (229, 3, 59, 7140, zyx902a, zyh1158, [(zyx902r, zyh1237)])
set_option maxRecDepth 100000 in
theorem zyx902e : zrunw zprog2 (zovW [zyx901d, zyx895d, zyx807d]) 100000 (zcutW [] none ((zyx902r, zyh1237), 59, 7140) zyx902p) 59 7140 kX8_heldBy (zkin zyx902r zyh1237) 0 (zargs 0 zyx902a, [], (zyh1158.1, zyh1158.2.1, 0), 0, 0) = true := by decide +kernel
theorem zyx902 {l : Launch} {D : va_G} {tys : List (ClassId × FieldType)} {o : zO} {z : Nat} (E : zEnv tys) : zKnW l D vwCl tys o z (zXX o z) zTs zprog2 zyx902d :=
  zkn_mk E (fun g => List.forall_mem_cons.mpr ⟨zyx901 (o := zwith o g) E, List.forall_mem_cons.mpr ⟨zyx895 (o := zwith o g) E, List.forall_mem_cons.mpr ⟨zyx807 (o := zwith o g) E, fun _ h => absurd h List.not_mem_nil⟩⟩⟩) (show zget zprog2 229 = some mX8_heldBy from rfl) rfl (by decide) (by decide) (by decide) (by decide) (G := zyx902p) (fun _ h => absurd h List.not_mem_nil) zyx902e
/-! X8_oneOf -/
noncomputable def zyx903a : List zAV := [zyv320, zyv362, zyv363]
noncomputable def zyx903q : List (Option zAV × zH) := [(some (.inl ((.ofNat 0, .ofNat 0), none)), zyh1238), (some (.inl ((.negSucc 175, .ofNat 79), none)), zyh1239)]
noncomputable def zyx903d : zKw := (260, 3, 4, 480, zyx903a, zyh1155, zyx903q)
set_option maxRecDepth 100000 in
theorem zyx903e : zrunw zprog2 (zovW []) 100000 zcut0 4 480 kX8_oneOf (zkinL zyx903q) 0 (zargs 0 zyx903a, [], (zyh1155.1, zyh1155.2.1, 0), 0, 0) = true := by decide +kernel
theorem zyx903 {l : Launch} {D : va_G} {tys : List (ClassId × FieldType)} {o : zO} {z : Nat} (E : zEnv tys) : zKnW l D vwCl tys o z (zXX o z) zTs zprog2 zyx903d :=
  zkn_ml E (fun g => fun _ h => absurd h List.not_mem_nil) (show zget zprog2 260 = some mX8_oneOf from rfl) rfl (by decide) (by decide) (by decide) (by decide) zyx903e
/-! X8_number -/
noncomputable def zyx904a : List zAV := [.inr (.inr (.inl 94)), .inl ((.ofNat 3, .ofNat 3), none)]
def zyx904r : Option zAV := some (.inl ((.negSucc 2147483647, .ofNat 2147483647), none))
noncomputable def zyx904p : List zPw := [((11, ([(0, .inr (.inr (.inl 94))), (1, .inl ((.ofNat 3, .ofNat 3), some (1, .ofNat 0))), (2, .inl ((.negSucc 2147483647, .ofNat 2147483647), some (2, .ofNat 0))), (3, .inl ((.ofNat 1, .ofNat 3), some (3, .ofNat 0)))], [], zyh1240, 0, 0), [(3, .negSucc 1)], .ofNat 7), (zyx904r, zyh1240), 5, 600)]
noncomputable def zyx904d : zKw := (259, 4, 5, 600, zyx904a, zyh1155, [(zyx904r, zyh1240)])
set_option maxRecDepth 100000 in
theorem zyx904c : zchkX [] zprog2 (zovW [zyx903d]) 100000 kX8_number [] zyx904p zyx904p = true := by decide +kernel
set_option maxRecDepth 100000 in
theorem zyx904e : zrunw zprog2 (zovW [zyx903d]) 100000 (zcutW [] none ((zyx904r, zyh1240), 5, 600) zyx904p) 5 600 kX8_number (zkin zyx904r zyh1240) 0 (zargs 0 zyx904a, [], (zyh1155.1, zyh1155.2.1, 0), 0, 0) = true := by decide +kernel
theorem zyx904 {l : Launch} {D : va_G} {tys : List (ClassId × FieldType)} {o : zO} {z : Nat} (E : zEnv tys) : zKnW l D vwCl tys o z (zXX o z) zTs zprog2 zyx904d :=
  zkn_mk E (fun g => List.forall_mem_cons.mpr ⟨zyx903 (o := zwith o g) E, fun _ h => absurd h List.not_mem_nil⟩) (show zget zprog2 259 = some mX8_number from rfl) rfl (by decide) (by decide) (by decide) (by decide) (G := zyx904p) (zkn_pt E (fun g => List.forall_mem_cons.mpr ⟨zyx903 (o := zwith o g) E, fun _ h => absurd h List.not_mem_nil⟩) (show zget zprog2 259 = some mX8_number from rfl) (fun _ h => absurd h List.not_mem_nil) zyx904c) zyx904e
/-! X8_thing -/
noncomputable def zyx905a : List zAV := [.inr (.inr (.inl 94)), .inl ((.ofNat 0, .ofNat 4), none)]
def zyx905r : Option zAV := some (.inl ((.negSucc 2147483647, .ofNat 2147483647), none))
noncomputable def zyx905p : List zPw := []
noncomputable def zyx905d : zKw := (292, 4, 60, 7260, zyx905a, zyh1155, [(zyx905r, zyh1240)])
set_option maxRecDepth 100000 in
theorem zyx905e : zrunw zprog2 (zovW [zyx904d, zyx902d, zyx899d, zyx806d, zyx807d]) 100000 (zcutW [] none ((zyx905r, zyh1240), 60, 7260) zyx905p) 60 7260 k2X8_thing (zkin zyx905r zyh1240) 0 (zargs 0 zyx905a, [], (zyh1155.1, zyh1155.2.1, 0), 0, 0) = true := by decide +kernel
theorem zyx905 {l : Launch} {D : va_G} {tys : List (ClassId × FieldType)} {o : zO} {z : Nat} (E : zEnv tys) : zKnW l D vwCl tys o z (zXX o z) zTs zprog2 zyx905d :=
  zkn_mk E (fun g => List.forall_mem_cons.mpr ⟨zyx904 (o := zwith o g) E, List.forall_mem_cons.mpr ⟨zyx902 (o := zwith o g) E, List.forall_mem_cons.mpr ⟨zyx899 (o := zwith o g) E, List.forall_mem_cons.mpr ⟨zyx806 (o := zwith o g) E, List.forall_mem_cons.mpr ⟨zyx807 (o := zwith o g) E, fun _ h => absurd h List.not_mem_nil⟩⟩⟩⟩⟩) (show zget zprog2 292 = some m2X8_thing from rfl) rfl (by decide) (by decide) (by decide) (by decide) (G := zyx905p) (fun _ h => absurd h List.not_mem_nil) zyx905e
/-! X8_product ((('r', 103), 40, 26),) -/
noncomputable def zyx906a : List zAV := [.inr (.inr (.inl 94)), .inl ((.ofNat 0, .ofNat 4), none)]
def zyx906r : Option zAV := some (.inl ((.negSucc 2147483647, .ofNat 2147483647), none))
noncomputable def zyx906q : zPw := ((6, ([(0, .inr (.inr (.inl 94))), (1, .inl ((.ofNat 0, .ofNat 4), some (1, .ofNat 0))), (2, .inl ((.negSucc 2147483647, .ofNat 2147483647), some (2, .ofNat 0)))], [], zyh1240, 0, 0), [], 0), (zyx906r, zyh1240), 61, 7380)
set_option maxRecDepth 100000 in
theorem zyx906c : zchkX [(94, 15)] zprog2 (zovW [zyx905d, zyx899d]) 100000 k2X8_product [zyx900q, zyx894q, zyx888q, zyx882q, zyx876q, zyx870q, zyx864q, zyx858q, zyx852q, zyx846q, zyx840q, zyx834q, zyx828q, zyx822q] [zyx906q] [zyx906q] = true := by decide +kernel
theorem zyx906k {l : Launch} {D : va_G} {tys : List (ClassId × FieldType)} {o : zO} {z : Nat} (E : zEnv tys) : zPtOk l D vwCl tys o z (zXX o z) zTs m2X8_product zyx906q := zkn_pt E (fun g => List.forall_mem_cons.mpr ⟨zyx905 (o := zwith o g) E, List.forall_mem_cons.mpr ⟨zyx899 (o := zwith o g) E, fun _ h => absurd h List.not_mem_nil⟩⟩) (show zget zprog2 265 = some m2X8_product from rfl) (List.forall_mem_cons.mpr ⟨zyx900k E, List.forall_mem_cons.mpr ⟨zyx894k E, List.forall_mem_cons.mpr ⟨zyx888k E, List.forall_mem_cons.mpr ⟨zyx882k E, List.forall_mem_cons.mpr ⟨zyx876k E, List.forall_mem_cons.mpr ⟨zyx870k E, List.forall_mem_cons.mpr ⟨zyx864k E, List.forall_mem_cons.mpr ⟨zyx858k E, List.forall_mem_cons.mpr ⟨zyx852k E, List.forall_mem_cons.mpr ⟨zyx846k E, List.forall_mem_cons.mpr ⟨zyx840k E, List.forall_mem_cons.mpr ⟨zyx834k E, List.forall_mem_cons.mpr ⟨zyx828k E, List.forall_mem_cons.mpr ⟨zyx822k E, fun _ h => absurd h List.not_mem_nil⟩⟩⟩⟩⟩⟩⟩⟩⟩⟩⟩⟩⟩⟩) zyx906c _ List.mem_cons_self
noncomputable def zyx906d : zKw := (265, 5, 61, 7380, zyx906a, zyh1155, [(zyx906r, zyh1240)])
set_option maxRecDepth 100000 in
theorem zyx906e : zrunw zprog2 (zovW [zyx905d, zyx899d]) 100000 (zcutW [(94, 15)] none ((zyx906r, zyh1240), 61, 7380) [zyx906q, zyx900q, zyx894q, zyx888q, zyx882q, zyx876q, zyx870q, zyx864q, zyx858q, zyx852q, zyx846q, zyx840q, zyx834q, zyx828q, zyx822q]) 61 7380 k2X8_product (zkin zyx906r zyh1240) 0 (zargs 0 zyx906a, [], (zyh1155.1, zyh1155.2.1, 0), 0, 0) = true := by decide +kernel
theorem zyx906 {l : Launch} {D : va_G} {tys : List (ClassId × FieldType)} {o : zO} {z : Nat} (E : zEnv tys) : zKnW l D vwCl tys o z (zXX o z) zTs zprog2 zyx906d :=
  zkn_mk E (fun g => List.forall_mem_cons.mpr ⟨zyx905 (o := zwith o g) E, List.forall_mem_cons.mpr ⟨zyx899 (o := zwith o g) E, fun _ h => absurd h List.not_mem_nil⟩⟩) (show zget zprog2 265 = some m2X8_product from rfl) rfl (by decide) (by decide) (by decide) (by decide) (G := [zyx906q, zyx900q, zyx894q, zyx888q, zyx882q, zyx876q, zyx870q, zyx864q, zyx858q, zyx852q, zyx846q, zyx840q, zyx834q, zyx828q, zyx822q]) (List.forall_mem_cons.mpr ⟨zyx906k E, List.forall_mem_cons.mpr ⟨zyx900k E, List.forall_mem_cons.mpr ⟨zyx894k E, List.forall_mem_cons.mpr ⟨zyx888k E, List.forall_mem_cons.mpr ⟨zyx882k E, List.forall_mem_cons.mpr ⟨zyx876k E, List.forall_mem_cons.mpr ⟨zyx870k E, List.forall_mem_cons.mpr ⟨zyx864k E, List.forall_mem_cons.mpr ⟨zyx858k E, List.forall_mem_cons.mpr ⟨zyx852k E, List.forall_mem_cons.mpr ⟨zyx846k E, List.forall_mem_cons.mpr ⟨zyx840k E, List.forall_mem_cons.mpr ⟨zyx834k E, List.forall_mem_cons.mpr ⟨zyx828k E, List.forall_mem_cons.mpr ⟨zyx822k E, fun _ h => absurd h List.not_mem_nil⟩⟩⟩⟩⟩⟩⟩⟩⟩⟩⟩⟩⟩⟩⟩) zyx906e
/-! X8_sum ((('r', 103), 40, 26),) -/
noncomputable def zyx907a : List zAV := [.inr (.inr (.inl 94)), .inl ((.ofNat 1, .ofNat 4), none)]
def zyx907r : Option zAV := some (.inl ((.negSucc 2147483647, .ofNat 2147483647), none))
noncomputable def zyx907q : zPw := ((6, ([(0, .inr (.inr (.inl 94))), (1, .inl ((.ofNat 0, .ofNat 4), some (1, .ofNat 0))), (2, .inl ((.negSucc 2147483647, .ofNat 2147483647), some (2, .ofNat 0)))], [], zyh1240, 0, 0), [], 0), (zyx907r, zyh1240), 62, 7500)
set_option maxRecDepth 100000 in
theorem zyx907c : zchkX [(94, 15)] zprog2 (zovW [zyx906d, zyx900d]) 100000 kX8_sum [zyx901q, zyx895q, zyx889q, zyx883q, zyx877q, zyx871q, zyx865q, zyx859q, zyx853q, zyx847q, zyx841q, zyx835q, zyx829q, zyx823q] [zyx907q] [zyx907q] = true := by decide +kernel
theorem zyx907k {l : Launch} {D : va_G} {tys : List (ClassId × FieldType)} {o : zO} {z : Nat} (E : zEnv tys) : zPtOk l D vwCl tys o z (zXX o z) zTs mX8_sum zyx907q := zkn_pt E (fun g => List.forall_mem_cons.mpr ⟨zyx906 (o := zwith o g) E, List.forall_mem_cons.mpr ⟨zyx900 (o := zwith o g) E, fun _ h => absurd h List.not_mem_nil⟩⟩) (show zget zprog2 284 = some mX8_sum from rfl) (List.forall_mem_cons.mpr ⟨zyx901k E, List.forall_mem_cons.mpr ⟨zyx895k E, List.forall_mem_cons.mpr ⟨zyx889k E, List.forall_mem_cons.mpr ⟨zyx883k E, List.forall_mem_cons.mpr ⟨zyx877k E, List.forall_mem_cons.mpr ⟨zyx871k E, List.forall_mem_cons.mpr ⟨zyx865k E, List.forall_mem_cons.mpr ⟨zyx859k E, List.forall_mem_cons.mpr ⟨zyx853k E, List.forall_mem_cons.mpr ⟨zyx847k E, List.forall_mem_cons.mpr ⟨zyx841k E, List.forall_mem_cons.mpr ⟨zyx835k E, List.forall_mem_cons.mpr ⟨zyx829k E, List.forall_mem_cons.mpr ⟨zyx823k E, fun _ h => absurd h List.not_mem_nil⟩⟩⟩⟩⟩⟩⟩⟩⟩⟩⟩⟩⟩⟩) zyx907c _ List.mem_cons_self
noncomputable def zyx907d : zKw := (284, 5, 62, 7500, zyx907a, zyh1155, [(zyx907r, zyh1240)])
set_option maxRecDepth 100000 in
theorem zyx907e : zrunw zprog2 (zovW [zyx906d, zyx900d]) 100000 (zcutW [(94, 15)] none ((zyx907r, zyh1240), 62, 7500) [zyx907q, zyx901q, zyx895q, zyx889q, zyx883q, zyx877q, zyx871q, zyx865q, zyx859q, zyx853q, zyx847q, zyx841q, zyx835q, zyx829q, zyx823q]) 62 7500 kX8_sum (zkin zyx907r zyh1240) 0 (zargs 0 zyx907a, [], (zyh1155.1, zyh1155.2.1, 0), 0, 0) = true := by decide +kernel
theorem zyx907 {l : Launch} {D : va_G} {tys : List (ClassId × FieldType)} {o : zO} {z : Nat} (E : zEnv tys) : zKnW l D vwCl tys o z (zXX o z) zTs zprog2 zyx907d :=
  zkn_mk E (fun g => List.forall_mem_cons.mpr ⟨zyx906 (o := zwith o g) E, List.forall_mem_cons.mpr ⟨zyx900 (o := zwith o g) E, fun _ h => absurd h List.not_mem_nil⟩⟩) (show zget zprog2 284 = some mX8_sum from rfl) rfl (by decide) (by decide) (by decide) (by decide) (G := [zyx907q, zyx901q, zyx895q, zyx889q, zyx883q, zyx877q, zyx871q, zyx865q, zyx859q, zyx853q, zyx847q, zyx841q, zyx835q, zyx829q, zyx823q]) (List.forall_mem_cons.mpr ⟨zyx907k E, List.forall_mem_cons.mpr ⟨zyx901k E, List.forall_mem_cons.mpr ⟨zyx895k E, List.forall_mem_cons.mpr ⟨zyx889k E, List.forall_mem_cons.mpr ⟨zyx883k E, List.forall_mem_cons.mpr ⟨zyx877k E, List.forall_mem_cons.mpr ⟨zyx871k E, List.forall_mem_cons.mpr ⟨zyx865k E, List.forall_mem_cons.mpr ⟨zyx859k E, List.forall_mem_cons.mpr ⟨zyx853k E, List.forall_mem_cons.mpr ⟨zyx847k E, List.forall_mem_cons.mpr ⟨zyx841k E, List.forall_mem_cons.mpr ⟨zyx835k E, List.forall_mem_cons.mpr ⟨zyx829k E, List.forall_mem_cons.mpr ⟨zyx823k E, fun _ h => absurd h List.not_mem_nil⟩⟩⟩⟩⟩⟩⟩⟩⟩⟩⟩⟩⟩⟩⟩) zyx907e
/-! X8_heldBy -/
noncomputable def zyx908a : List zAV := [.inr (.inr (.inl 94)), .inl ((.ofNat 1, .ofNat 4), none)]
def zyx908r : Option zAV := some (.inl ((.negSucc 2147483647, .ofNat 2147483647), none))
noncomputable def zyx908p : List zPw := []
noncomputable def zyx908d : zKw := (229, 3, 63, 7620, zyx908a, zyh1155, [(zyx908r, zyh1240)])
set_option maxRecDepth 100000 in
theorem zyx908e : zrunw zprog2 (zovW [zyx907d, zyx901d, zyx806d]) 100000 (zcutW [] none ((zyx908r, zyh1240), 63, 7620) zyx908p) 63 7620 kX8_heldBy (zkin zyx908r zyh1240) 0 (zargs 0 zyx908a, [], (zyh1155.1, zyh1155.2.1, 0), 0, 0) = true := by decide +kernel
theorem zyx908 {l : Launch} {D : va_G} {tys : List (ClassId × FieldType)} {o : zO} {z : Nat} (E : zEnv tys) : zKnW l D vwCl tys o z (zXX o z) zTs zprog2 zyx908d :=
  zkn_mk E (fun g => List.forall_mem_cons.mpr ⟨zyx907 (o := zwith o g) E, List.forall_mem_cons.mpr ⟨zyx901 (o := zwith o g) E, List.forall_mem_cons.mpr ⟨zyx806 (o := zwith o g) E, fun _ h => absurd h List.not_mem_nil⟩⟩⟩) (show zget zprog2 229 = some mX8_heldBy from rfl) rfl (by decide) (by decide) (by decide) (by decide) (G := zyx908p) (fun _ h => absurd h List.not_mem_nil) zyx908e
/-! X8_oneOf -/
noncomputable def zyx909a : List zAV := [zyv320, zyv362, zyv363]
noncomputable def zyx909q : List (Option zAV × zH) := [(some (.inl ((.ofNat 0, .ofNat 0), none)), zyh1241), (some (.inl ((.negSucc 175, .ofNat 79), none)), zyh1242)]
noncomputable def zyx909d : zKw := (260, 3, 4, 480, zyx909a, zyh1152, zyx909q)
set_option maxRecDepth 100000 in
theorem zyx909e : zrunw zprog2 (zovW []) 100000 zcut0 4 480 kX8_oneOf (zkinL zyx909q) 0 (zargs 0 zyx909a, [], (zyh1152.1, zyh1152.2.1, 0), 0, 0) = true := by decide +kernel
theorem zyx909 {l : Launch} {D : va_G} {tys : List (ClassId × FieldType)} {o : zO} {z : Nat} (E : zEnv tys) : zKnW l D vwCl tys o z (zXX o z) zTs zprog2 zyx909d :=
  zkn_ml E (fun g => fun _ h => absurd h List.not_mem_nil) (show zget zprog2 260 = some mX8_oneOf from rfl) rfl (by decide) (by decide) (by decide) (by decide) zyx909e
/-! X8_number -/
noncomputable def zyx910a : List zAV := [.inr (.inr (.inl 94)), .inl ((.ofNat 3, .ofNat 3), none)]
def zyx910r : Option zAV := some (.inl ((.negSucc 2147483647, .ofNat 2147483647), none))
noncomputable def zyx910p : List zPw := [((11, ([(0, .inr (.inr (.inl 94))), (1, .inl ((.ofNat 3, .ofNat 3), some (1, .ofNat 0))), (2, .inl ((.negSucc 2147483647, .ofNat 2147483647), some (2, .ofNat 0))), (3, .inl ((.ofNat 1, .ofNat 3), some (3, .ofNat 0)))], [], zyh1243, 0, 0), [(3, .negSucc 1)], .ofNat 7), (zyx910r, zyh1243), 5, 600)]
noncomputable def zyx910d : zKw := (259, 4, 5, 600, zyx910a, zyh1152, [(zyx910r, zyh1243)])
set_option maxRecDepth 100000 in
theorem zyx910c : zchkX [] zprog2 (zovW [zyx909d]) 100000 kX8_number [] zyx910p zyx910p = true := by decide +kernel
set_option maxRecDepth 100000 in
theorem zyx910e : zrunw zprog2 (zovW [zyx909d]) 100000 (zcutW [] none ((zyx910r, zyh1243), 5, 600) zyx910p) 5 600 kX8_number (zkin zyx910r zyh1243) 0 (zargs 0 zyx910a, [], (zyh1152.1, zyh1152.2.1, 0), 0, 0) = true := by decide +kernel
theorem zyx910 {l : Launch} {D : va_G} {tys : List (ClassId × FieldType)} {o : zO} {z : Nat} (E : zEnv tys) : zKnW l D vwCl tys o z (zXX o z) zTs zprog2 zyx910d :=
  zkn_mk E (fun g => List.forall_mem_cons.mpr ⟨zyx909 (o := zwith o g) E, fun _ h => absurd h List.not_mem_nil⟩) (show zget zprog2 259 = some mX8_number from rfl) rfl (by decide) (by decide) (by decide) (by decide) (G := zyx910p) (zkn_pt E (fun g => List.forall_mem_cons.mpr ⟨zyx909 (o := zwith o g) E, fun _ h => absurd h List.not_mem_nil⟩) (show zget zprog2 259 = some mX8_number from rfl) (fun _ h => absurd h List.not_mem_nil) zyx910c) zyx910e
/-! X8_thing -/
noncomputable def zyx911a : List zAV := [.inr (.inr (.inl 94)), .inl ((.ofNat 0, .ofNat 4), none)]
def zyx911r : Option zAV := some (.inl ((.negSucc 2147483647, .ofNat 2147483647), none))
noncomputable def zyx911p : List zPw := []
noncomputable def zyx911d : zKw := (292, 4, 64, 7740, zyx911a, zyh1152, [(zyx911r, zyh1243)])
set_option maxRecDepth 100000 in
theorem zyx911e : zrunw zprog2 (zovW [zyx910d, zyx908d, zyx905d, zyx805d, zyx806d]) 100000 (zcutW [] none ((zyx911r, zyh1243), 64, 7740) zyx911p) 64 7740 k2X8_thing (zkin zyx911r zyh1243) 0 (zargs 0 zyx911a, [], (zyh1152.1, zyh1152.2.1, 0), 0, 0) = true := by decide +kernel
theorem zyx911 {l : Launch} {D : va_G} {tys : List (ClassId × FieldType)} {o : zO} {z : Nat} (E : zEnv tys) : zKnW l D vwCl tys o z (zXX o z) zTs zprog2 zyx911d :=
  zkn_mk E (fun g => List.forall_mem_cons.mpr ⟨zyx910 (o := zwith o g) E, List.forall_mem_cons.mpr ⟨zyx908 (o := zwith o g) E, List.forall_mem_cons.mpr ⟨zyx905 (o := zwith o g) E, List.forall_mem_cons.mpr ⟨zyx805 (o := zwith o g) E, List.forall_mem_cons.mpr ⟨zyx806 (o := zwith o g) E, fun _ h => absurd h List.not_mem_nil⟩⟩⟩⟩⟩) (show zget zprog2 292 = some m2X8_thing from rfl) rfl (by decide) (by decide) (by decide) (by decide) (G := zyx911p) (fun _ h => absurd h List.not_mem_nil) zyx911e
/-! X8_product ((('r', 103), 40, 25),) -/
noncomputable def zyx912a : List zAV := [.inr (.inr (.inl 94)), .inl ((.ofNat 0, .ofNat 4), none)]
def zyx912r : Option zAV := some (.inl ((.negSucc 2147483647, .ofNat 2147483647), none))
noncomputable def zyx912q : zPw := ((6, ([(0, .inr (.inr (.inl 94))), (1, .inl ((.ofNat 0, .ofNat 4), some (1, .ofNat 0))), (2, .inl ((.negSucc 2147483647, .ofNat 2147483647), some (2, .ofNat 0)))], [], zyh1243, 0, 0), [], 0), (zyx912r, zyh1243), 65, 7860)
set_option maxRecDepth 100000 in
theorem zyx912c : zchkX [(94, 15)] zprog2 (zovW [zyx911d, zyx905d]) 100000 k2X8_product [zyx906q, zyx900q, zyx894q, zyx888q, zyx882q, zyx876q, zyx870q, zyx864q, zyx858q, zyx852q, zyx846q, zyx840q, zyx834q, zyx828q, zyx822q] [zyx912q] [zyx912q] = true := by decide +kernel
theorem zyx912k {l : Launch} {D : va_G} {tys : List (ClassId × FieldType)} {o : zO} {z : Nat} (E : zEnv tys) : zPtOk l D vwCl tys o z (zXX o z) zTs m2X8_product zyx912q := zkn_pt E (fun g => List.forall_mem_cons.mpr ⟨zyx911 (o := zwith o g) E, List.forall_mem_cons.mpr ⟨zyx905 (o := zwith o g) E, fun _ h => absurd h List.not_mem_nil⟩⟩) (show zget zprog2 265 = some m2X8_product from rfl) (List.forall_mem_cons.mpr ⟨zyx906k E, List.forall_mem_cons.mpr ⟨zyx900k E, List.forall_mem_cons.mpr ⟨zyx894k E, List.forall_mem_cons.mpr ⟨zyx888k E, List.forall_mem_cons.mpr ⟨zyx882k E, List.forall_mem_cons.mpr ⟨zyx876k E, List.forall_mem_cons.mpr ⟨zyx870k E, List.forall_mem_cons.mpr ⟨zyx864k E, List.forall_mem_cons.mpr ⟨zyx858k E, List.forall_mem_cons.mpr ⟨zyx852k E, List.forall_mem_cons.mpr ⟨zyx846k E, List.forall_mem_cons.mpr ⟨zyx840k E, List.forall_mem_cons.mpr ⟨zyx834k E, List.forall_mem_cons.mpr ⟨zyx828k E, List.forall_mem_cons.mpr ⟨zyx822k E, fun _ h => absurd h List.not_mem_nil⟩⟩⟩⟩⟩⟩⟩⟩⟩⟩⟩⟩⟩⟩⟩) zyx912c _ List.mem_cons_self
noncomputable def zyx912d : zKw := (265, 5, 65, 7860, zyx912a, zyh1152, [(zyx912r, zyh1243)])
set_option maxRecDepth 100000 in
theorem zyx912e : zrunw zprog2 (zovW [zyx911d, zyx905d]) 100000 (zcutW [(94, 15)] none ((zyx912r, zyh1243), 65, 7860) [zyx912q, zyx906q, zyx900q, zyx894q, zyx888q, zyx882q, zyx876q, zyx870q, zyx864q, zyx858q, zyx852q, zyx846q, zyx840q, zyx834q, zyx828q, zyx822q]) 65 7860 k2X8_product (zkin zyx912r zyh1243) 0 (zargs 0 zyx912a, [], (zyh1152.1, zyh1152.2.1, 0), 0, 0) = true := by decide +kernel
theorem zyx912 {l : Launch} {D : va_G} {tys : List (ClassId × FieldType)} {o : zO} {z : Nat} (E : zEnv tys) : zKnW l D vwCl tys o z (zXX o z) zTs zprog2 zyx912d :=
  zkn_mk E (fun g => List.forall_mem_cons.mpr ⟨zyx911 (o := zwith o g) E, List.forall_mem_cons.mpr ⟨zyx905 (o := zwith o g) E, fun _ h => absurd h List.not_mem_nil⟩⟩) (show zget zprog2 265 = some m2X8_product from rfl) rfl (by decide) (by decide) (by decide) (by decide) (G := [zyx912q, zyx906q, zyx900q, zyx894q, zyx888q, zyx882q, zyx876q, zyx870q, zyx864q, zyx858q, zyx852q, zyx846q, zyx840q, zyx834q, zyx828q, zyx822q]) (List.forall_mem_cons.mpr ⟨zyx912k E, List.forall_mem_cons.mpr ⟨zyx906k E, List.forall_mem_cons.mpr ⟨zyx900k E, List.forall_mem_cons.mpr ⟨zyx894k E, List.forall_mem_cons.mpr ⟨zyx888k E, List.forall_mem_cons.mpr ⟨zyx882k E, List.forall_mem_cons.mpr ⟨zyx876k E, List.forall_mem_cons.mpr ⟨zyx870k E, List.forall_mem_cons.mpr ⟨zyx864k E, List.forall_mem_cons.mpr ⟨zyx858k E, List.forall_mem_cons.mpr ⟨zyx852k E, List.forall_mem_cons.mpr ⟨zyx846k E, List.forall_mem_cons.mpr ⟨zyx840k E, List.forall_mem_cons.mpr ⟨zyx834k E, List.forall_mem_cons.mpr ⟨zyx828k E, List.forall_mem_cons.mpr ⟨zyx822k E, fun _ h => absurd h List.not_mem_nil⟩⟩⟩⟩⟩⟩⟩⟩⟩⟩⟩⟩⟩⟩⟩⟩) zyx912e
/-! X8_sum ((('r', 103), 40, 25),) -/
noncomputable def zyx913a : List zAV := [.inr (.inr (.inl 94)), .inl ((.ofNat 1, .ofNat 4), none)]
def zyx913r : Option zAV := some (.inl ((.negSucc 2147483647, .ofNat 2147483647), none))
noncomputable def zyx913q : zPw := ((6, ([(0, .inr (.inr (.inl 94))), (1, .inl ((.ofNat 0, .ofNat 4), some (1, .ofNat 0))), (2, .inl ((.negSucc 2147483647, .ofNat 2147483647), some (2, .ofNat 0)))], [], zyh1243, 0, 0), [], 0), (zyx913r, zyh1243), 66, 7980)
set_option maxRecDepth 100000 in
theorem zyx913c : zchkX [(94, 15)] zprog2 (zovW [zyx912d, zyx906d]) 100000 kX8_sum [zyx907q, zyx901q, zyx895q, zyx889q, zyx883q, zyx877q, zyx871q, zyx865q, zyx859q, zyx853q, zyx847q, zyx841q, zyx835q, zyx829q, zyx823q] [zyx913q] [zyx913q] = true := by decide +kernel
theorem zyx913k {l : Launch} {D : va_G} {tys : List (ClassId × FieldType)} {o : zO} {z : Nat} (E : zEnv tys) : zPtOk l D vwCl tys o z (zXX o z) zTs mX8_sum zyx913q := zkn_pt E (fun g => List.forall_mem_cons.mpr ⟨zyx912 (o := zwith o g) E, List.forall_mem_cons.mpr ⟨zyx906 (o := zwith o g) E, fun _ h => absurd h List.not_mem_nil⟩⟩) (show zget zprog2 284 = some mX8_sum from rfl) (List.forall_mem_cons.mpr ⟨zyx907k E, List.forall_mem_cons.mpr ⟨zyx901k E, List.forall_mem_cons.mpr ⟨zyx895k E, List.forall_mem_cons.mpr ⟨zyx889k E, List.forall_mem_cons.mpr ⟨zyx883k E, List.forall_mem_cons.mpr ⟨zyx877k E, List.forall_mem_cons.mpr ⟨zyx871k E, List.forall_mem_cons.mpr ⟨zyx865k E, List.forall_mem_cons.mpr ⟨zyx859k E, List.forall_mem_cons.mpr ⟨zyx853k E, List.forall_mem_cons.mpr ⟨zyx847k E, List.forall_mem_cons.mpr ⟨zyx841k E, List.forall_mem_cons.mpr ⟨zyx835k E, List.forall_mem_cons.mpr ⟨zyx829k E, List.forall_mem_cons.mpr ⟨zyx823k E, fun _ h => absurd h List.not_mem_nil⟩⟩⟩⟩⟩⟩⟩⟩⟩⟩⟩⟩⟩⟩⟩) zyx913c _ List.mem_cons_self
noncomputable def zyx913d : zKw := (284, 5, 66, 7980, zyx913a, zyh1152, [(zyx913r, zyh1243)])
set_option maxRecDepth 100000 in
theorem zyx913e : zrunw zprog2 (zovW [zyx912d, zyx906d]) 100000 (zcutW [(94, 15)] none ((zyx913r, zyh1243), 66, 7980) [zyx913q, zyx907q, zyx901q, zyx895q, zyx889q, zyx883q, zyx877q, zyx871q, zyx865q, zyx859q, zyx853q, zyx847q, zyx841q, zyx835q, zyx829q, zyx823q]) 66 7980 kX8_sum (zkin zyx913r zyh1243) 0 (zargs 0 zyx913a, [], (zyh1152.1, zyh1152.2.1, 0), 0, 0) = true := by decide +kernel
theorem zyx913 {l : Launch} {D : va_G} {tys : List (ClassId × FieldType)} {o : zO} {z : Nat} (E : zEnv tys) : zKnW l D vwCl tys o z (zXX o z) zTs zprog2 zyx913d :=
  zkn_mk E (fun g => List.forall_mem_cons.mpr ⟨zyx912 (o := zwith o g) E, List.forall_mem_cons.mpr ⟨zyx906 (o := zwith o g) E, fun _ h => absurd h List.not_mem_nil⟩⟩) (show zget zprog2 284 = some mX8_sum from rfl) rfl (by decide) (by decide) (by decide) (by decide) (G := [zyx913q, zyx907q, zyx901q, zyx895q, zyx889q, zyx883q, zyx877q, zyx871q, zyx865q, zyx859q, zyx853q, zyx847q, zyx841q, zyx835q, zyx829q, zyx823q]) (List.forall_mem_cons.mpr ⟨zyx913k E, List.forall_mem_cons.mpr ⟨zyx907k E, List.forall_mem_cons.mpr ⟨zyx901k E, List.forall_mem_cons.mpr ⟨zyx895k E, List.forall_mem_cons.mpr ⟨zyx889k E, List.forall_mem_cons.mpr ⟨zyx883k E, List.forall_mem_cons.mpr ⟨zyx877k E, List.forall_mem_cons.mpr ⟨zyx871k E, List.forall_mem_cons.mpr ⟨zyx865k E, List.forall_mem_cons.mpr ⟨zyx859k E, List.forall_mem_cons.mpr ⟨zyx853k E, List.forall_mem_cons.mpr ⟨zyx847k E, List.forall_mem_cons.mpr ⟨zyx841k E, List.forall_mem_cons.mpr ⟨zyx835k E, List.forall_mem_cons.mpr ⟨zyx829k E, List.forall_mem_cons.mpr ⟨zyx823k E, fun _ h => absurd h List.not_mem_nil⟩⟩⟩⟩⟩⟩⟩⟩⟩⟩⟩⟩⟩⟩⟩⟩) zyx913e
/-! X8_heldBy -/
noncomputable def zyx914a : List zAV := [.inr (.inr (.inl 94)), .inl ((.ofNat 1, .ofNat 4), none)]
def zyx914r : Option zAV := some (.inl ((.negSucc 2147483647, .ofNat 2147483647), none))
noncomputable def zyx914p : List zPw := []
noncomputable def zyx914d : zKw := (229, 3, 67, 8100, zyx914a, zyh1152, [(zyx914r, zyh1243)])
set_option maxRecDepth 100000 in
theorem zyx914e : zrunw zprog2 (zovW [zyx913d, zyx907d, zyx805d]) 100000 (zcutW [] none ((zyx914r, zyh1243), 67, 8100) zyx914p) 67 8100 kX8_heldBy (zkin zyx914r zyh1243) 0 (zargs 0 zyx914a, [], (zyh1152.1, zyh1152.2.1, 0), 0, 0) = true := by decide +kernel
theorem zyx914 {l : Launch} {D : va_G} {tys : List (ClassId × FieldType)} {o : zO} {z : Nat} (E : zEnv tys) : zKnW l D vwCl tys o z (zXX o z) zTs zprog2 zyx914d :=
  zkn_mk E (fun g => List.forall_mem_cons.mpr ⟨zyx913 (o := zwith o g) E, List.forall_mem_cons.mpr ⟨zyx907 (o := zwith o g) E, List.forall_mem_cons.mpr ⟨zyx805 (o := zwith o g) E, fun _ h => absurd h List.not_mem_nil⟩⟩⟩) (show zget zprog2 229 = some mX8_heldBy from rfl) rfl (by decide) (by decide) (by decide) (by decide) (G := zyx914p) (fun _ h => absurd h List.not_mem_nil) zyx914e
/-! X8_oneOf -/
noncomputable def zyx915a : List zAV := [zyv320, zyv362, zyv363]
noncomputable def zyx915q : List (Option zAV × zH) := [(some (.inl ((.ofNat 0, .ofNat 0), none)), zyh1244), (some (.inl ((.negSucc 175, .ofNat 79), none)), zyh1245)]
noncomputable def zyx915d : zKw := (260, 3, 4, 480, zyx915a, zyh1149, zyx915q)
set_option maxRecDepth 100000 in
theorem zyx915e : zrunw zprog2 (zovW []) 100000 zcut0 4 480 kX8_oneOf (zkinL zyx915q) 0 (zargs 0 zyx915a, [], (zyh1149.1, zyh1149.2.1, 0), 0, 0) = true := by decide +kernel
theorem zyx915 {l : Launch} {D : va_G} {tys : List (ClassId × FieldType)} {o : zO} {z : Nat} (E : zEnv tys) : zKnW l D vwCl tys o z (zXX o z) zTs zprog2 zyx915d :=
  zkn_ml E (fun g => fun _ h => absurd h List.not_mem_nil) (show zget zprog2 260 = some mX8_oneOf from rfl) rfl (by decide) (by decide) (by decide) (by decide) zyx915e
/-! X8_number -/
noncomputable def zyx916a : List zAV := [.inr (.inr (.inl 94)), .inl ((.ofNat 3, .ofNat 3), none)]
def zyx916r : Option zAV := some (.inl ((.negSucc 2147483647, .ofNat 2147483647), none))
noncomputable def zyx916p : List zPw := [((11, ([(0, .inr (.inr (.inl 94))), (1, .inl ((.ofNat 3, .ofNat 3), some (1, .ofNat 0))), (2, .inl ((.negSucc 2147483647, .ofNat 2147483647), some (2, .ofNat 0))), (3, .inl ((.ofNat 1, .ofNat 3), some (3, .ofNat 0)))], [], zyh1246, 0, 0), [(3, .negSucc 1)], .ofNat 7), (zyx916r, zyh1246), 5, 600)]
noncomputable def zyx916d : zKw := (259, 4, 5, 600, zyx916a, zyh1149, [(zyx916r, zyh1246)])
set_option maxRecDepth 100000 in
theorem zyx916c : zchkX [] zprog2 (zovW [zyx915d]) 100000 kX8_number [] zyx916p zyx916p = true := by decide +kernel
set_option maxRecDepth 100000 in
theorem zyx916e : zrunw zprog2 (zovW [zyx915d]) 100000 (zcutW [] none ((zyx916r, zyh1246), 5, 600) zyx916p) 5 600 kX8_number (zkin zyx916r zyh1246) 0 (zargs 0 zyx916a, [], (zyh1149.1, zyh1149.2.1, 0), 0, 0) = true := by decide +kernel
theorem zyx916 {l : Launch} {D : va_G} {tys : List (ClassId × FieldType)} {o : zO} {z : Nat} (E : zEnv tys) : zKnW l D vwCl tys o z (zXX o z) zTs zprog2 zyx916d :=
  zkn_mk E (fun g => List.forall_mem_cons.mpr ⟨zyx915 (o := zwith o g) E, fun _ h => absurd h List.not_mem_nil⟩) (show zget zprog2 259 = some mX8_number from rfl) rfl (by decide) (by decide) (by decide) (by decide) (G := zyx916p) (zkn_pt E (fun g => List.forall_mem_cons.mpr ⟨zyx915 (o := zwith o g) E, fun _ h => absurd h List.not_mem_nil⟩) (show zget zprog2 259 = some mX8_number from rfl) (fun _ h => absurd h List.not_mem_nil) zyx916c) zyx916e
/-! X8_thing -/
noncomputable def zyx917a : List zAV := [.inr (.inr (.inl 94)), .inl ((.ofNat 0, .ofNat 4), none)]
def zyx917r : Option zAV := some (.inl ((.negSucc 2147483647, .ofNat 2147483647), none))
noncomputable def zyx917p : List zPw := []
noncomputable def zyx917d : zKw := (292, 4, 68, 8220, zyx917a, zyh1149, [(zyx917r, zyh1246)])
set_option maxRecDepth 100000 in
theorem zyx917e : zrunw zprog2 (zovW [zyx916d, zyx914d, zyx911d, zyx804d, zyx805d]) 100000 (zcutW [] none ((zyx917r, zyh1246), 68, 8220) zyx917p) 68 8220 k2X8_thing (zkin zyx917r zyh1246) 0 (zargs 0 zyx917a, [], (zyh1149.1, zyh1149.2.1, 0), 0, 0) = true := by decide +kernel
theorem zyx917 {l : Launch} {D : va_G} {tys : List (ClassId × FieldType)} {o : zO} {z : Nat} (E : zEnv tys) : zKnW l D vwCl tys o z (zXX o z) zTs zprog2 zyx917d :=
  zkn_mk E (fun g => List.forall_mem_cons.mpr ⟨zyx916 (o := zwith o g) E, List.forall_mem_cons.mpr ⟨zyx914 (o := zwith o g) E, List.forall_mem_cons.mpr ⟨zyx911 (o := zwith o g) E, List.forall_mem_cons.mpr ⟨zyx804 (o := zwith o g) E, List.forall_mem_cons.mpr ⟨zyx805 (o := zwith o g) E, fun _ h => absurd h List.not_mem_nil⟩⟩⟩⟩⟩) (show zget zprog2 292 = some m2X8_thing from rfl) rfl (by decide) (by decide) (by decide) (by decide) (G := zyx917p) (fun _ h => absurd h List.not_mem_nil) zyx917e
/-! X8_product ((('r', 103), 40, 24),) -/
noncomputable def zyx918a : List zAV := [.inr (.inr (.inl 94)), .inl ((.ofNat 0, .ofNat 4), none)]
def zyx918r : Option zAV := some (.inl ((.negSucc 2147483647, .ofNat 2147483647), none))
noncomputable def zyx918q : zPw := ((6, ([(0, .inr (.inr (.inl 94))), (1, .inl ((.ofNat 0, .ofNat 4), some (1, .ofNat 0))), (2, .inl ((.negSucc 2147483647, .ofNat 2147483647), some (2, .ofNat 0)))], [], zyh1246, 0, 0), [], 0), (zyx918r, zyh1246), 69, 8340)
set_option maxRecDepth 100000 in
theorem zyx918c : zchkX [(94, 15)] zprog2 (zovW [zyx917d, zyx911d]) 100000 k2X8_product [zyx912q, zyx906q, zyx900q, zyx894q, zyx888q, zyx882q, zyx876q, zyx870q, zyx864q, zyx858q, zyx852q, zyx846q, zyx840q, zyx834q, zyx828q, zyx822q] [zyx918q] [zyx918q] = true := by decide +kernel
theorem zyx918k {l : Launch} {D : va_G} {tys : List (ClassId × FieldType)} {o : zO} {z : Nat} (E : zEnv tys) : zPtOk l D vwCl tys o z (zXX o z) zTs m2X8_product zyx918q := zkn_pt E (fun g => List.forall_mem_cons.mpr ⟨zyx917 (o := zwith o g) E, List.forall_mem_cons.mpr ⟨zyx911 (o := zwith o g) E, fun _ h => absurd h List.not_mem_nil⟩⟩) (show zget zprog2 265 = some m2X8_product from rfl) (List.forall_mem_cons.mpr ⟨zyx912k E, List.forall_mem_cons.mpr ⟨zyx906k E, List.forall_mem_cons.mpr ⟨zyx900k E, List.forall_mem_cons.mpr ⟨zyx894k E, List.forall_mem_cons.mpr ⟨zyx888k E, List.forall_mem_cons.mpr ⟨zyx882k E, List.forall_mem_cons.mpr ⟨zyx876k E, List.forall_mem_cons.mpr ⟨zyx870k E, List.forall_mem_cons.mpr ⟨zyx864k E, List.forall_mem_cons.mpr ⟨zyx858k E, List.forall_mem_cons.mpr ⟨zyx852k E, List.forall_mem_cons.mpr ⟨zyx846k E, List.forall_mem_cons.mpr ⟨zyx840k E, List.forall_mem_cons.mpr ⟨zyx834k E, List.forall_mem_cons.mpr ⟨zyx828k E, List.forall_mem_cons.mpr ⟨zyx822k E, fun _ h => absurd h List.not_mem_nil⟩⟩⟩⟩⟩⟩⟩⟩⟩⟩⟩⟩⟩⟩⟩⟩) zyx918c _ List.mem_cons_self
noncomputable def zyx918d : zKw := (265, 5, 69, 8340, zyx918a, zyh1149, [(zyx918r, zyh1246)])
set_option maxRecDepth 100000 in
theorem zyx918e : zrunw zprog2 (zovW [zyx917d, zyx911d]) 100000 (zcutW [(94, 15)] none ((zyx918r, zyh1246), 69, 8340) [zyx918q, zyx912q, zyx906q, zyx900q, zyx894q, zyx888q, zyx882q, zyx876q, zyx870q, zyx864q, zyx858q, zyx852q, zyx846q, zyx840q, zyx834q, zyx828q, zyx822q]) 69 8340 k2X8_product (zkin zyx918r zyh1246) 0 (zargs 0 zyx918a, [], (zyh1149.1, zyh1149.2.1, 0), 0, 0) = true := by decide +kernel
theorem zyx918 {l : Launch} {D : va_G} {tys : List (ClassId × FieldType)} {o : zO} {z : Nat} (E : zEnv tys) : zKnW l D vwCl tys o z (zXX o z) zTs zprog2 zyx918d :=
  zkn_mk E (fun g => List.forall_mem_cons.mpr ⟨zyx917 (o := zwith o g) E, List.forall_mem_cons.mpr ⟨zyx911 (o := zwith o g) E, fun _ h => absurd h List.not_mem_nil⟩⟩) (show zget zprog2 265 = some m2X8_product from rfl) rfl (by decide) (by decide) (by decide) (by decide) (G := [zyx918q, zyx912q, zyx906q, zyx900q, zyx894q, zyx888q, zyx882q, zyx876q, zyx870q, zyx864q, zyx858q, zyx852q, zyx846q, zyx840q, zyx834q, zyx828q, zyx822q]) (List.forall_mem_cons.mpr ⟨zyx918k E, List.forall_mem_cons.mpr ⟨zyx912k E, List.forall_mem_cons.mpr ⟨zyx906k E, List.forall_mem_cons.mpr ⟨zyx900k E, List.forall_mem_cons.mpr ⟨zyx894k E, List.forall_mem_cons.mpr ⟨zyx888k E, List.forall_mem_cons.mpr ⟨zyx882k E, List.forall_mem_cons.mpr ⟨zyx876k E, List.forall_mem_cons.mpr ⟨zyx870k E, List.forall_mem_cons.mpr ⟨zyx864k E, List.forall_mem_cons.mpr ⟨zyx858k E, List.forall_mem_cons.mpr ⟨zyx852k E, List.forall_mem_cons.mpr ⟨zyx846k E, List.forall_mem_cons.mpr ⟨zyx840k E, List.forall_mem_cons.mpr ⟨zyx834k E, List.forall_mem_cons.mpr ⟨zyx828k E, List.forall_mem_cons.mpr ⟨zyx822k E, fun _ h => absurd h List.not_mem_nil⟩⟩⟩⟩⟩⟩⟩⟩⟩⟩⟩⟩⟩⟩⟩⟩⟩) zyx918e
/-! X8_sum ((('r', 103), 40, 24),) -/
noncomputable def zyx919a : List zAV := [.inr (.inr (.inl 94)), .inl ((.ofNat 1, .ofNat 4), none)]
def zyx919r : Option zAV := some (.inl ((.negSucc 2147483647, .ofNat 2147483647), none))
noncomputable def zyx919q : zPw := ((6, ([(0, .inr (.inr (.inl 94))), (1, .inl ((.ofNat 0, .ofNat 4), some (1, .ofNat 0))), (2, .inl ((.negSucc 2147483647, .ofNat 2147483647), some (2, .ofNat 0)))], [], zyh1246, 0, 0), [], 0), (zyx919r, zyh1246), 70, 8460)
set_option maxRecDepth 100000 in
theorem zyx919c : zchkX [(94, 15)] zprog2 (zovW [zyx918d, zyx912d]) 100000 kX8_sum [zyx913q, zyx907q, zyx901q, zyx895q, zyx889q, zyx883q, zyx877q, zyx871q, zyx865q, zyx859q, zyx853q, zyx847q, zyx841q, zyx835q, zyx829q, zyx823q] [zyx919q] [zyx919q] = true := by decide +kernel
theorem zyx919k {l : Launch} {D : va_G} {tys : List (ClassId × FieldType)} {o : zO} {z : Nat} (E : zEnv tys) : zPtOk l D vwCl tys o z (zXX o z) zTs mX8_sum zyx919q := zkn_pt E (fun g => List.forall_mem_cons.mpr ⟨zyx918 (o := zwith o g) E, List.forall_mem_cons.mpr ⟨zyx912 (o := zwith o g) E, fun _ h => absurd h List.not_mem_nil⟩⟩) (show zget zprog2 284 = some mX8_sum from rfl) (List.forall_mem_cons.mpr ⟨zyx913k E, List.forall_mem_cons.mpr ⟨zyx907k E, List.forall_mem_cons.mpr ⟨zyx901k E, List.forall_mem_cons.mpr ⟨zyx895k E, List.forall_mem_cons.mpr ⟨zyx889k E, List.forall_mem_cons.mpr ⟨zyx883k E, List.forall_mem_cons.mpr ⟨zyx877k E, List.forall_mem_cons.mpr ⟨zyx871k E, List.forall_mem_cons.mpr ⟨zyx865k E, List.forall_mem_cons.mpr ⟨zyx859k E, List.forall_mem_cons.mpr ⟨zyx853k E, List.forall_mem_cons.mpr ⟨zyx847k E, List.forall_mem_cons.mpr ⟨zyx841k E, List.forall_mem_cons.mpr ⟨zyx835k E, List.forall_mem_cons.mpr ⟨zyx829k E, List.forall_mem_cons.mpr ⟨zyx823k E, fun _ h => absurd h List.not_mem_nil⟩⟩⟩⟩⟩⟩⟩⟩⟩⟩⟩⟩⟩⟩⟩⟩) zyx919c _ List.mem_cons_self
noncomputable def zyx919d : zKw := (284, 5, 70, 8460, zyx919a, zyh1149, [(zyx919r, zyh1246)])
set_option maxRecDepth 100000 in
theorem zyx919e : zrunw zprog2 (zovW [zyx918d, zyx912d]) 100000 (zcutW [(94, 15)] none ((zyx919r, zyh1246), 70, 8460) [zyx919q, zyx913q, zyx907q, zyx901q, zyx895q, zyx889q, zyx883q, zyx877q, zyx871q, zyx865q, zyx859q, zyx853q, zyx847q, zyx841q, zyx835q, zyx829q, zyx823q]) 70 8460 kX8_sum (zkin zyx919r zyh1246) 0 (zargs 0 zyx919a, [], (zyh1149.1, zyh1149.2.1, 0), 0, 0) = true := by decide +kernel
theorem zyx919 {l : Launch} {D : va_G} {tys : List (ClassId × FieldType)} {o : zO} {z : Nat} (E : zEnv tys) : zKnW l D vwCl tys o z (zXX o z) zTs zprog2 zyx919d :=
  zkn_mk E (fun g => List.forall_mem_cons.mpr ⟨zyx918 (o := zwith o g) E, List.forall_mem_cons.mpr ⟨zyx912 (o := zwith o g) E, fun _ h => absurd h List.not_mem_nil⟩⟩) (show zget zprog2 284 = some mX8_sum from rfl) rfl (by decide) (by decide) (by decide) (by decide) (G := [zyx919q, zyx913q, zyx907q, zyx901q, zyx895q, zyx889q, zyx883q, zyx877q, zyx871q, zyx865q, zyx859q, zyx853q, zyx847q, zyx841q, zyx835q, zyx829q, zyx823q]) (List.forall_mem_cons.mpr ⟨zyx919k E, List.forall_mem_cons.mpr ⟨zyx913k E, List.forall_mem_cons.mpr ⟨zyx907k E, List.forall_mem_cons.mpr ⟨zyx901k E, List.forall_mem_cons.mpr ⟨zyx895k E, List.forall_mem_cons.mpr ⟨zyx889k E, List.forall_mem_cons.mpr ⟨zyx883k E, List.forall_mem_cons.mpr ⟨zyx877k E, List.forall_mem_cons.mpr ⟨zyx871k E, List.forall_mem_cons.mpr ⟨zyx865k E, List.forall_mem_cons.mpr ⟨zyx859k E, List.forall_mem_cons.mpr ⟨zyx853k E, List.forall_mem_cons.mpr ⟨zyx847k E, List.forall_mem_cons.mpr ⟨zyx841k E, List.forall_mem_cons.mpr ⟨zyx835k E, List.forall_mem_cons.mpr ⟨zyx829k E, List.forall_mem_cons.mpr ⟨zyx823k E, fun _ h => absurd h List.not_mem_nil⟩⟩⟩⟩⟩⟩⟩⟩⟩⟩⟩⟩⟩⟩⟩⟩⟩) zyx919e
/-! X8_heldBy -/
noncomputable def zyx920a : List zAV := [.inr (.inr (.inl 94)), .inl ((.ofNat 1, .ofNat 4), none)]
def zyx920r : Option zAV := some (.inl ((.negSucc 2147483647, .ofNat 2147483647), none))
noncomputable def zyx920p : List zPw := []
noncomputable def zyx920d : zKw := (229, 3, 71, 8580, zyx920a, zyh1149, [(zyx920r, zyh1246)])
set_option maxRecDepth 100000 in
theorem zyx920e : zrunw zprog2 (zovW [zyx919d, zyx913d, zyx804d]) 100000 (zcutW [] none ((zyx920r, zyh1246), 71, 8580) zyx920p) 71 8580 kX8_heldBy (zkin zyx920r zyh1246) 0 (zargs 0 zyx920a, [], (zyh1149.1, zyh1149.2.1, 0), 0, 0) = true := by decide +kernel
theorem zyx920 {l : Launch} {D : va_G} {tys : List (ClassId × FieldType)} {o : zO} {z : Nat} (E : zEnv tys) : zKnW l D vwCl tys o z (zXX o z) zTs zprog2 zyx920d :=
  zkn_mk E (fun g => List.forall_mem_cons.mpr ⟨zyx919 (o := zwith o g) E, List.forall_mem_cons.mpr ⟨zyx913 (o := zwith o g) E, List.forall_mem_cons.mpr ⟨zyx804 (o := zwith o g) E, fun _ h => absurd h List.not_mem_nil⟩⟩⟩) (show zget zprog2 229 = some mX8_heldBy from rfl) rfl (by decide) (by decide) (by decide) (by decide) (G := zyx920p) (fun _ h => absurd h List.not_mem_nil) zyx920e
/-! X8_oneOf -/
noncomputable def zyx921a : List zAV := [zyv320, zyv362, zyv363]
noncomputable def zyx921q : List (Option zAV × zH) := [(some (.inl ((.ofNat 0, .ofNat 0), none)), zyh1247), (some (.inl ((.negSucc 175, .ofNat 79), none)), zyh1248)]
noncomputable def zyx921d : zKw := (260, 3, 4, 480, zyx921a, zyh1146, zyx921q)
set_option maxRecDepth 100000 in
theorem zyx921e : zrunw zprog2 (zovW []) 100000 zcut0 4 480 kX8_oneOf (zkinL zyx921q) 0 (zargs 0 zyx921a, [], (zyh1146.1, zyh1146.2.1, 0), 0, 0) = true := by decide +kernel
theorem zyx921 {l : Launch} {D : va_G} {tys : List (ClassId × FieldType)} {o : zO} {z : Nat} (E : zEnv tys) : zKnW l D vwCl tys o z (zXX o z) zTs zprog2 zyx921d :=
  zkn_ml E (fun g => fun _ h => absurd h List.not_mem_nil) (show zget zprog2 260 = some mX8_oneOf from rfl) rfl (by decide) (by decide) (by decide) (by decide) zyx921e
/-! X8_number -/
noncomputable def zyx922a : List zAV := [.inr (.inr (.inl 94)), .inl ((.ofNat 3, .ofNat 3), none)]
def zyx922r : Option zAV := some (.inl ((.negSucc 2147483647, .ofNat 2147483647), none))
noncomputable def zyx922p : List zPw := [((11, ([(0, .inr (.inr (.inl 94))), (1, .inl ((.ofNat 3, .ofNat 3), some (1, .ofNat 0))), (2, .inl ((.negSucc 2147483647, .ofNat 2147483647), some (2, .ofNat 0))), (3, .inl ((.ofNat 1, .ofNat 3), some (3, .ofNat 0)))], [], zyh1249, 0, 0), [(3, .negSucc 1)], .ofNat 7), (zyx922r, zyh1249), 5, 600)]
noncomputable def zyx922d : zKw := (259, 4, 5, 600, zyx922a, zyh1146, [(zyx922r, zyh1249)])
set_option maxRecDepth 100000 in
theorem zyx922c : zchkX [] zprog2 (zovW [zyx921d]) 100000 kX8_number [] zyx922p zyx922p = true := by decide +kernel
set_option maxRecDepth 100000 in
theorem zyx922e : zrunw zprog2 (zovW [zyx921d]) 100000 (zcutW [] none ((zyx922r, zyh1249), 5, 600) zyx922p) 5 600 kX8_number (zkin zyx922r zyh1249) 0 (zargs 0 zyx922a, [], (zyh1146.1, zyh1146.2.1, 0), 0, 0) = true := by decide +kernel
theorem zyx922 {l : Launch} {D : va_G} {tys : List (ClassId × FieldType)} {o : zO} {z : Nat} (E : zEnv tys) : zKnW l D vwCl tys o z (zXX o z) zTs zprog2 zyx922d :=
  zkn_mk E (fun g => List.forall_mem_cons.mpr ⟨zyx921 (o := zwith o g) E, fun _ h => absurd h List.not_mem_nil⟩) (show zget zprog2 259 = some mX8_number from rfl) rfl (by decide) (by decide) (by decide) (by decide) (G := zyx922p) (zkn_pt E (fun g => List.forall_mem_cons.mpr ⟨zyx921 (o := zwith o g) E, fun _ h => absurd h List.not_mem_nil⟩) (show zget zprog2 259 = some mX8_number from rfl) (fun _ h => absurd h List.not_mem_nil) zyx922c) zyx922e
/-! X8_thing -/
noncomputable def zyx923a : List zAV := [.inr (.inr (.inl 94)), .inl ((.ofNat 0, .ofNat 4), none)]
def zyx923r : Option zAV := some (.inl ((.negSucc 2147483647, .ofNat 2147483647), none))
noncomputable def zyx923p : List zPw := []
noncomputable def zyx923d : zKw := (292, 4, 72, 8700, zyx923a, zyh1146, [(zyx923r, zyh1249)])
set_option maxRecDepth 100000 in
theorem zyx923e : zrunw zprog2 (zovW [zyx922d, zyx920d, zyx917d, zyx803d, zyx804d]) 100000 (zcutW [] none ((zyx923r, zyh1249), 72, 8700) zyx923p) 72 8700 k2X8_thing (zkin zyx923r zyh1249) 0 (zargs 0 zyx923a, [], (zyh1146.1, zyh1146.2.1, 0), 0, 0) = true := by decide +kernel
theorem zyx923 {l : Launch} {D : va_G} {tys : List (ClassId × FieldType)} {o : zO} {z : Nat} (E : zEnv tys) : zKnW l D vwCl tys o z (zXX o z) zTs zprog2 zyx923d :=
  zkn_mk E (fun g => List.forall_mem_cons.mpr ⟨zyx922 (o := zwith o g) E, List.forall_mem_cons.mpr ⟨zyx920 (o := zwith o g) E, List.forall_mem_cons.mpr ⟨zyx917 (o := zwith o g) E, List.forall_mem_cons.mpr ⟨zyx803 (o := zwith o g) E, List.forall_mem_cons.mpr ⟨zyx804 (o := zwith o g) E, fun _ h => absurd h List.not_mem_nil⟩⟩⟩⟩⟩) (show zget zprog2 292 = some m2X8_thing from rfl) rfl (by decide) (by decide) (by decide) (by decide) (G := zyx923p) (fun _ h => absurd h List.not_mem_nil) zyx923e
