noncomputable def zyc344 : zC := .inr (8, [zyv120, zyv15, zyv15, zyv15, zyv120, zyv120, zyv120, zyv120, zyv15, zyv120, zyv15, zyv15, zyv118, zyv17, zyv319, zyv352, zyv17, zyv120, zyv120, zyv120, zyv15, zyv36, zyv127, zyv120, zyv15, zyv120, zyv120, zyv15, zyv15, zyv120, zyv120, zyv120, zyv120, zyv120, zyv120, zyv120, zyv120, zyv120, zyv120, zyv15, zyv120, zyv120, zyv120, zyv120, zyv15, zyv15, zyv15, zyv15, zyv120, zyv120, zyv120])
noncomputable def zyr273 : List zC := [zyc248, zyc248, zyc248, zyc240, zyc10, zyc10, zyc10, zyc12, zyc241, zyc8, zyc8, zyc241, zyc8, zyc8, zyc344, zyc250]
noncomputable def zyh319 : zH := (126, [zyr178, zyr179, zyr180, zyr181, zyr182, zyr273, zyr184, zyr185], zym11)
noncomputable def zyh320 : zH := (126, [zyr178, zyr179, zyr180, zyr181, zyr182, zyr244, zyr184, zyr185], zym11)
noncomputable def zyh321 : zH := (126, [zyr178, zyr179, zyr180, zyr181, zyr182, zyr243, zyr184, zyr185], zym11)
noncomputable def zyc345 : zC := .inr (8, [zyv120, zyv15, zyv15, zyv15, zyv120, zyv120, zyv120, zyv120, zyv15, zyv120, zyv15, zyv15, zyv118, zyv17, zyv319, zyv351, zyv17, zyv120, zyv120, zyv120, zyv15, zyv36, zyv127, zyv120, zyv15, zyv120, zyv120, zyv15, zyv15, zyv120, zyv120, zyv120, zyv120, zyv120, zyv120, zyv120, zyv120, zyv120, zyv120, zyv15, zyv120, zyv120, zyv120, zyv120, zyv15, zyv15, zyv15, zyv15, zyv120, zyv120, zyv120])
noncomputable def zyr274 : List zC := [zyc248, zyc248, zyc248, zyc240, zyc10, zyc10, zyc10, zyc12, zyc241, zyc8, zyc8, zyc241, zyc8, zyc8, zyc345, zyc250]
noncomputable def zyh322 : zH := (126, [zyr178, zyr179, zyr180, zyr181, zyr182, zyr274, zyr184, zyr185], zym11)
noncomputable def zyh323 : zH := (126, [zyr178, zyr179, zyr180, zyr181, zyr182, zyr242, zyr184, zyr185], zym11)
noncomputable def zyh324 : zH := (126, [zyr178, zyr179, zyr180, zyr181, zyr182, zyr241, zyr184, zyr185], zym11)
noncomputable def zyc346 : zC := .inr (8, [zyv120, zyv15, zyv15, zyv15, zyv120, zyv120, zyv120, zyv120, zyv15, zyv120, zyv15, zyv15, zyv118, zyv17, zyv319, zyv350, zyv17, zyv120, zyv120, zyv120, zyv15, zyv36, zyv127, zyv120, zyv15, zyv120, zyv120, zyv15, zyv15, zyv120, zyv120, zyv120, zyv120, zyv120, zyv120, zyv120, zyv120, zyv120, zyv120, zyv15, zyv120, zyv120, zyv120, zyv120, zyv15, zyv15, zyv15, zyv15, zyv120, zyv120, zyv120])
noncomputable def zyr275 : List zC := [zyc248, zyc248, zyc248, zyc240, zyc10, zyc10, zyc10, zyc12, zyc241, zyc8, zyc8, zyc241, zyc8, zyc8, zyc346, zyc250]
noncomputable def zyh325 : zH := (126, [zyr178, zyr179, zyr180, zyr181, zyr182, zyr275, zyr184, zyr185], zym11)
noncomputable def zyh326 : zH := (126, [zyr178, zyr179, zyr180, zyr181, zyr182, zyr240, zyr184, zyr185], zym11)
noncomputable def zyh327 : zH := (126, [zyr178, zyr179, zyr180, zyr181, zyr182, zyr239, zyr184, zyr185], zym11)
noncomputable def zyc347 : zC := .inr (8, [zyv120, zyv15, zyv15, zyv15, zyv120, zyv120, zyv120, zyv120, zyv15, zyv120, zyv15, zyv15, zyv118, zyv17, zyv319, zyv349, zyv17, zyv120, zyv120, zyv120, zyv15, zyv36, zyv127, zyv120, zyv15, zyv120, zyv120, zyv15, zyv15, zyv120, zyv120, zyv120, zyv120, zyv120, zyv120, zyv120, zyv120, zyv120, zyv120, zyv15, zyv120, zyv120, zyv120, zyv120, zyv15, zyv15, zyv15, zyv15, zyv120, zyv120, zyv120])
noncomputable def zyr276 : List zC := [zyc248, zyc248, zyc248, zyc240, zyc10, zyc10, zyc10, zyc12, zyc241, zyc8, zyc8, zyc241, zyc8, zyc8, zyc347, zyc250]
noncomputable def zyh328 : zH := (126, [zyr178, zyr179, zyr180, zyr181, zyr182, zyr276, zyr184, zyr185], zym11)
noncomputable def zyh329 : zH := (126, [zyr178, zyr179, zyr180, zyr181, zyr182, zyr238, zyr184, zyr185], zym11)
noncomputable def zyh330 : zH := (126, [zyr178, zyr179, zyr180, zyr181, zyr182, zyr237, zyr184, zyr185], zym11)
noncomputable def zyc348 : zC := .inr (8, [zyv120, zyv15, zyv15, zyv15, zyv120, zyv120, zyv120, zyv120, zyv15, zyv120, zyv15, zyv15, zyv118, zyv17, zyv319, zyv348, zyv17, zyv120, zyv120, zyv120, zyv15, zyv36, zyv127, zyv120, zyv15, zyv120, zyv120, zyv15, zyv15, zyv120, zyv120, zyv120, zyv120, zyv120, zyv120, zyv120, zyv120, zyv120, zyv120, zyv15, zyv120, zyv120, zyv120, zyv120, zyv15, zyv15, zyv15, zyv15, zyv120, zyv120, zyv120])
noncomputable def zyr277 : List zC := [zyc248, zyc248, zyc248, zyc240, zyc10, zyc10, zyc10, zyc12, zyc241, zyc8, zyc8, zyc241, zyc8, zyc8, zyc348, zyc250]
noncomputable def zyh331 : zH := (126, [zyr178, zyr179, zyr180, zyr181, zyr182, zyr277, zyr184, zyr185], zym11)
noncomputable def zyh332 : zH := (126, [zyr178, zyr179, zyr180, zyr181, zyr182, zyr236, zyr184, zyr185], zym11)
noncomputable def zyh333 : zH := (126, [zyr178, zyr179, zyr180, zyr181, zyr182, zyr235, zyr184, zyr185], zym11)
noncomputable def zyc349 : zC := .inr (8, [zyv120, zyv15, zyv15, zyv15, zyv120, zyv120, zyv120, zyv120, zyv15, zyv120, zyv15, zyv15, zyv118, zyv17, zyv319, zyv347, zyv17, zyv120, zyv120, zyv120, zyv15, zyv36, zyv127, zyv120, zyv15, zyv120, zyv120, zyv15, zyv15, zyv120, zyv120, zyv120, zyv120, zyv120, zyv120, zyv120, zyv120, zyv120, zyv120, zyv15, zyv120, zyv120, zyv120, zyv120, zyv15, zyv15, zyv15, zyv15, zyv120, zyv120, zyv120])
noncomputable def zyr278 : List zC := [zyc248, zyc248, zyc248, zyc240, zyc10, zyc10, zyc10, zyc12, zyc241, zyc8, zyc8, zyc241, zyc8, zyc8, zyc349, zyc250]
noncomputable def zyh334 : zH := (126, [zyr178, zyr179, zyr180, zyr181, zyr182, zyr278, zyr184, zyr185], zym11)
noncomputable def zyh335 : zH := (126, [zyr178, zyr179, zyr180, zyr181, zyr182, zyr234, zyr184, zyr185], zym11)
noncomputable def zyh336 : zH := (126, [zyr178, zyr179, zyr180, zyr181, zyr182, zyr233, zyr184, zyr185], zym11)
noncomputable def zyc350 : zC := .inr (8, [zyv120, zyv15, zyv15, zyv15, zyv120, zyv120, zyv120, zyv120, zyv15, zyv120, zyv15, zyv15, zyv118, zyv17, zyv319, zyv346, zyv17, zyv120, zyv120, zyv120, zyv15, zyv36, zyv127, zyv120, zyv15, zyv120, zyv120, zyv15, zyv15, zyv120, zyv120, zyv120, zyv120, zyv120, zyv120, zyv120, zyv120, zyv120, zyv120, zyv15, zyv120, zyv120, zyv120, zyv120, zyv15, zyv15, zyv15, zyv15, zyv120, zyv120, zyv120])
noncomputable def zyr279 : List zC := [zyc248, zyc248, zyc248, zyc240, zyc10, zyc10, zyc10, zyc12, zyc241, zyc8, zyc8, zyc241, zyc8, zyc8, zyc350, zyc250]
noncomputable def zyh337 : zH := (126, [zyr178, zyr179, zyr180, zyr181, zyr182, zyr279, zyr184, zyr185], zym11)
noncomputable def zyh338 : zH := (126, [zyr178, zyr179, zyr180, zyr181, zyr182, zyr232, zyr184, zyr185], zym11)
noncomputable def zyh339 : zH := (126, [zyr178, zyr179, zyr180, zyr181, zyr182, zyr231, zyr184, zyr185], zym11)
noncomputable def zyc351 : zC := .inr (8, [zyv120, zyv15, zyv15, zyv15, zyv120, zyv120, zyv120, zyv120, zyv15, zyv120, zyv15, zyv15, zyv118, zyv17, zyv319, zyv345, zyv17, zyv120, zyv120, zyv120, zyv15, zyv36, zyv127, zyv120, zyv15, zyv120, zyv120, zyv15, zyv15, zyv120, zyv120, zyv120, zyv120, zyv120, zyv120, zyv120, zyv120, zyv120, zyv120, zyv15, zyv120, zyv120, zyv120, zyv120, zyv15, zyv15, zyv15, zyv15, zyv120, zyv120, zyv120])
noncomputable def zyr280 : List zC := [zyc248, zyc248, zyc248, zyc240, zyc10, zyc10, zyc10, zyc12, zyc241, zyc8, zyc8, zyc241, zyc8, zyc8, zyc351, zyc250]
noncomputable def zyh340 : zH := (126, [zyr178, zyr179, zyr180, zyr181, zyr182, zyr280, zyr184, zyr185], zym11)
noncomputable def zyh341 : zH := (126, [zyr178, zyr179, zyr180, zyr181, zyr182, zyr230, zyr184, zyr185], zym11)
noncomputable def zyh342 : zH := (126, [zyr178, zyr179, zyr180, zyr181, zyr182, zyr229, zyr184, zyr185], zym11)
noncomputable def zyc352 : zC := .inr (8, [zyv120, zyv15, zyv15, zyv15, zyv120, zyv120, zyv120, zyv120, zyv15, zyv120, zyv15, zyv15, zyv118, zyv17, zyv319, zyv344, zyv17, zyv120, zyv120, zyv120, zyv15, zyv36, zyv127, zyv120, zyv15, zyv120, zyv120, zyv15, zyv15, zyv120, zyv120, zyv120, zyv120, zyv120, zyv120, zyv120, zyv120, zyv120, zyv120, zyv15, zyv120, zyv120, zyv120, zyv120, zyv15, zyv15, zyv15, zyv15, zyv120, zyv120, zyv120])
noncomputable def zyr281 : List zC := [zyc248, zyc248, zyc248, zyc240, zyc10, zyc10, zyc10, zyc12, zyc241, zyc8, zyc8, zyc241, zyc8, zyc8, zyc352, zyc250]
noncomputable def zyh343 : zH := (126, [zyr178, zyr179, zyr180, zyr181, zyr182, zyr281, zyr184, zyr185], zym11)
noncomputable def zyh344 : zH := (126, [zyr178, zyr179, zyr180, zyr181, zyr182, zyr228, zyr184, zyr185], zym11)
noncomputable def zyh345 : zH := (126, [zyr178, zyr179, zyr180, zyr181, zyr182, zyr227, zyr184, zyr185], zym11)
noncomputable def zyc353 : zC := .inr (8, [zyv120, zyv15, zyv15, zyv15, zyv120, zyv120, zyv120, zyv120, zyv15, zyv120, zyv15, zyv15, zyv118, zyv17, zyv319, zyv343, zyv17, zyv120, zyv120, zyv120, zyv15, zyv36, zyv127, zyv120, zyv15, zyv120, zyv120, zyv15, zyv15, zyv120, zyv120, zyv120, zyv120, zyv120, zyv120, zyv120, zyv120, zyv120, zyv120, zyv15, zyv120, zyv120, zyv120, zyv120, zyv15, zyv15, zyv15, zyv15, zyv120, zyv120, zyv120])
noncomputable def zyr282 : List zC := [zyc248, zyc248, zyc248, zyc240, zyc10, zyc10, zyc10, zyc12, zyc241, zyc8, zyc8, zyc241, zyc8, zyc8, zyc353, zyc250]
noncomputable def zyh346 : zH := (126, [zyr178, zyr179, zyr180, zyr181, zyr182, zyr282, zyr184, zyr185], zym11)
noncomputable def zyh347 : zH := (126, [zyr178, zyr179, zyr180, zyr181, zyr182, zyr226, zyr184, zyr185], zym11)
noncomputable def zyh348 : zH := (126, [zyr178, zyr179, zyr180, zyr181, zyr182, zyr225, zyr184, zyr185], zym11)
/-! X8_sum ((('r', 99), 40, 31),) -/
noncomputable def zyx105a : List zAV := [.inr (.inr (.inl 94)), .inl ((.ofNat 1, .ofNat 4), none)]
def zyx105r : Option zAV := some (.inl ((.negSucc 2147483647, .ofNat 2147483647), none))
noncomputable def zyx105q : zPw := ((6, ([(0, .inr (.inr (.inl 94))), (1, .inl ((.ofNat 0, .ofNat 4), some (1, .ofNat 0))), (2, .inl ((.negSucc 2147483647, .ofNat 2147483647), some (2, .ofNat 0)))], [], zyh318, 0, 0), [], 0), (zyx105r, zyh318), 42, 5100)
set_option maxRecDepth 100000 in
theorem zyx105c : zchkX [(94, 15)] zprog2 (zovW [zyx104d, zyx98d]) 100000 kX8_sum [zyx99q, zyx93q, zyx87q, zyx81q, zyx75q, zyx69q, zyx63q, zyx57q, zyx51q] [zyx105q] [zyx105q] = true := by decide +kernel
theorem zyx105k {l : Launch} {D : va_G} {tys : List (ClassId × FieldType)} {o : zO} {z : Nat} (E : zEnv tys) : zPtOk l D vwCl tys o z (zXX o z) zTs mX8_sum zyx105q := zkn_pt E (fun g => List.forall_mem_cons.mpr ⟨zyx104 (o := zwith o g) E, List.forall_mem_cons.mpr ⟨zyx98 (o := zwith o g) E, fun _ h => absurd h List.not_mem_nil⟩⟩) (show zget zprog2 284 = some mX8_sum from rfl) (List.forall_mem_cons.mpr ⟨zyx99k E, List.forall_mem_cons.mpr ⟨zyx93k E, List.forall_mem_cons.mpr ⟨zyx87k E, List.forall_mem_cons.mpr ⟨zyx81k E, List.forall_mem_cons.mpr ⟨zyx75k E, List.forall_mem_cons.mpr ⟨zyx69k E, List.forall_mem_cons.mpr ⟨zyx63k E, List.forall_mem_cons.mpr ⟨zyx57k E, List.forall_mem_cons.mpr ⟨zyx51k E, fun _ h => absurd h List.not_mem_nil⟩⟩⟩⟩⟩⟩⟩⟩⟩) zyx105c _ List.mem_cons_self
noncomputable def zyx105d : zKw := (284, 5, 42, 5100, zyx105a, zyh263, [(zyx105r, zyh318)])
set_option maxRecDepth 100000 in
theorem zyx105e : zrunw zprog2 (zovW [zyx104d, zyx98d]) 100000 (zcutW [(94, 15)] none ((zyx105r, zyh318), 42, 5100) [zyx105q, zyx99q, zyx93q, zyx87q, zyx81q, zyx75q, zyx69q, zyx63q, zyx57q, zyx51q]) 42 5100 kX8_sum (zkin zyx105r zyh318) 0 (zargs 0 zyx105a, [], (zyh263.1, zyh263.2.1, 0), 0, 0) = true := by decide +kernel
theorem zyx105 {l : Launch} {D : va_G} {tys : List (ClassId × FieldType)} {o : zO} {z : Nat} (E : zEnv tys) : zKnW l D vwCl tys o z (zXX o z) zTs zprog2 zyx105d :=
  zkn_mk E (fun g => List.forall_mem_cons.mpr ⟨zyx104 (o := zwith o g) E, List.forall_mem_cons.mpr ⟨zyx98 (o := zwith o g) E, fun _ h => absurd h List.not_mem_nil⟩⟩) (show zget zprog2 284 = some mX8_sum from rfl) rfl (by decide) (by decide) (by decide) (by decide) (G := [zyx105q, zyx99q, zyx93q, zyx87q, zyx81q, zyx75q, zyx69q, zyx63q, zyx57q, zyx51q]) (List.forall_mem_cons.mpr ⟨zyx105k E, List.forall_mem_cons.mpr ⟨zyx99k E, List.forall_mem_cons.mpr ⟨zyx93k E, List.forall_mem_cons.mpr ⟨zyx87k E, List.forall_mem_cons.mpr ⟨zyx81k E, List.forall_mem_cons.mpr ⟨zyx75k E, List.forall_mem_cons.mpr ⟨zyx69k E, List.forall_mem_cons.mpr ⟨zyx63k E, List.forall_mem_cons.mpr ⟨zyx57k E, List.forall_mem_cons.mpr ⟨zyx51k E, fun _ h => absurd h List.not_mem_nil⟩⟩⟩⟩⟩⟩⟩⟩⟩⟩) zyx105e
/-! X8_heldBy -/
noncomputable def zyx106a : List zAV := [.inr (.inr (.inl 94)), .inl ((.ofNat 1, .ofNat 4), none)]
def zyx106r : Option zAV := some (.inl ((.negSucc 2147483647, .ofNat 2147483647), none))
noncomputable def zyx106p : List zPw := []
noncomputable def zyx106d : zKw := (229, 3, 43, 5220, zyx106a, zyh263, [(zyx106r, zyh318)])
set_option maxRecDepth 100000 in
theorem zyx106e : zrunw zprog2 (zovW [zyx105d, zyx99d, zyx39d]) 100000 (zcutW [] none ((zyx106r, zyh318), 43, 5220) zyx106p) 43 5220 kX8_heldBy (zkin zyx106r zyh318) 0 (zargs 0 zyx106a, [], (zyh263.1, zyh263.2.1, 0), 0, 0) = true := by decide +kernel
theorem zyx106 {l : Launch} {D : va_G} {tys : List (ClassId × FieldType)} {o : zO} {z : Nat} (E : zEnv tys) : zKnW l D vwCl tys o z (zXX o z) zTs zprog2 zyx106d :=
  zkn_mk E (fun g => List.forall_mem_cons.mpr ⟨zyx105 (o := zwith o g) E, List.forall_mem_cons.mpr ⟨zyx99 (o := zwith o g) E, List.forall_mem_cons.mpr ⟨zyx39 (o := zwith o g) E, fun _ h => absurd h List.not_mem_nil⟩⟩⟩) (show zget zprog2 229 = some mX8_heldBy from rfl) rfl (by decide) (by decide) (by decide) (by decide) (G := zyx106p) (fun _ h => absurd h List.not_mem_nil) zyx106e
/-! X8_oneOf -/
noncomputable def zyx107a : List zAV := [zyv320, zyv362, zyv363]
noncomputable def zyx107q : List (Option zAV × zH) := [(some (.inl ((.ofNat 0, .ofNat 0), none)), zyh319), (some (.inl ((.negSucc 175, .ofNat 79), none)), zyh320)]
noncomputable def zyx107d : zKw := (260, 3, 4, 480, zyx107a, zyh260, zyx107q)
set_option maxRecDepth 100000 in
theorem zyx107e : zrunw zprog2 (zovW []) 100000 zcut0 4 480 kX8_oneOf (zkinL zyx107q) 0 (zargs 0 zyx107a, [], (zyh260.1, zyh260.2.1, 0), 0, 0) = true := by decide +kernel
theorem zyx107 {l : Launch} {D : va_G} {tys : List (ClassId × FieldType)} {o : zO} {z : Nat} (E : zEnv tys) : zKnW l D vwCl tys o z (zXX o z) zTs zprog2 zyx107d :=
  zkn_ml E (fun g => fun _ h => absurd h List.not_mem_nil) (show zget zprog2 260 = some mX8_oneOf from rfl) rfl (by decide) (by decide) (by decide) (by decide) zyx107e
/-! X8_number -/
noncomputable def zyx108a : List zAV := [.inr (.inr (.inl 94)), .inl ((.ofNat 3, .ofNat 3), none)]
def zyx108r : Option zAV := some (.inl ((.negSucc 2147483647, .ofNat 2147483647), none))
noncomputable def zyx108p : List zPw := [((11, ([(0, .inr (.inr (.inl 94))), (1, .inl ((.ofNat 3, .ofNat 3), some (1, .ofNat 0))), (2, .inl ((.negSucc 2147483647, .ofNat 2147483647), some (2, .ofNat 0))), (3, .inl ((.ofNat 1, .ofNat 3), some (3, .ofNat 0)))], [], zyh321, 0, 0), [(3, .negSucc 1)], .ofNat 7), (zyx108r, zyh321), 5, 600)]
noncomputable def zyx108d : zKw := (259, 4, 5, 600, zyx108a, zyh260, [(zyx108r, zyh321)])
set_option maxRecDepth 100000 in
theorem zyx108c : zchkX [] zprog2 (zovW [zyx107d]) 100000 kX8_number [] zyx108p zyx108p = true := by decide +kernel
set_option maxRecDepth 100000 in
theorem zyx108e : zrunw zprog2 (zovW [zyx107d]) 100000 (zcutW [] none ((zyx108r, zyh321), 5, 600) zyx108p) 5 600 kX8_number (zkin zyx108r zyh321) 0 (zargs 0 zyx108a, [], (zyh260.1, zyh260.2.1, 0), 0, 0) = true := by decide +kernel
theorem zyx108 {l : Launch} {D : va_G} {tys : List (ClassId × FieldType)} {o : zO} {z : Nat} (E : zEnv tys) : zKnW l D vwCl tys o z (zXX o z) zTs zprog2 zyx108d :=
  zkn_mk E (fun g => List.forall_mem_cons.mpr ⟨zyx107 (o := zwith o g) E, fun _ h => absurd h List.not_mem_nil⟩) (show zget zprog2 259 = some mX8_number from rfl) rfl (by decide) (by decide) (by decide) (by decide) (G := zyx108p) (zkn_pt E (fun g => List.forall_mem_cons.mpr ⟨zyx107 (o := zwith o g) E, fun _ h => absurd h List.not_mem_nil⟩) (show zget zprog2 259 = some mX8_number from rfl) (fun _ h => absurd h List.not_mem_nil) zyx108c) zyx108e
/-! X8_thing -/
noncomputable def zyx109a : List zAV := [.inr (.inr (.inl 94)), .inl ((.ofNat 0, .ofNat 4), none)]
def zyx109r : Option zAV := some (.inl ((.negSucc 2147483647, .ofNat 2147483647), none))
noncomputable def zyx109p : List zPw := []
noncomputable def zyx109d : zKw := (292, 4, 44, 5340, zyx109a, zyh260, [(zyx109r, zyh321)])
set_option maxRecDepth 100000 in
theorem zyx109e : zrunw zprog2 (zovW [zyx108d, zyx106d, zyx103d, zyx38d, zyx39d]) 100000 (zcutW [] none ((zyx109r, zyh321), 44, 5340) zyx109p) 44 5340 k2X8_thing (zkin zyx109r zyh321) 0 (zargs 0 zyx109a, [], (zyh260.1, zyh260.2.1, 0), 0, 0) = true := by decide +kernel
theorem zyx109 {l : Launch} {D : va_G} {tys : List (ClassId × FieldType)} {o : zO} {z : Nat} (E : zEnv tys) : zKnW l D vwCl tys o z (zXX o z) zTs zprog2 zyx109d :=
  zkn_mk E (fun g => List.forall_mem_cons.mpr ⟨zyx108 (o := zwith o g) E, List.forall_mem_cons.mpr ⟨zyx106 (o := zwith o g) E, List.forall_mem_cons.mpr ⟨zyx103 (o := zwith o g) E, List.forall_mem_cons.mpr ⟨zyx38 (o := zwith o g) E, List.forall_mem_cons.mpr ⟨zyx39 (o := zwith o g) E, fun _ h => absurd h List.not_mem_nil⟩⟩⟩⟩⟩) (show zget zprog2 292 = some m2X8_thing from rfl) rfl (by decide) (by decide) (by decide) (by decide) (G := zyx109p) (fun _ h => absurd h List.not_mem_nil) zyx109e
/-! X8_product ((('r', 99), 40, 30),) -/
noncomputable def zyx110a : List zAV := [.inr (.inr (.inl 94)), .inl ((.ofNat 0, .ofNat 4), none)]
def zyx110r : Option zAV := some (.inl ((.negSucc 2147483647, .ofNat 2147483647), none))
noncomputable def zyx110q : zPw := ((6, ([(0, .inr (.inr (.inl 94))), (1, .inl ((.ofNat 0, .ofNat 4), some (1, .ofNat 0))), (2, .inl ((.negSucc 2147483647, .ofNat 2147483647), some (2, .ofNat 0)))], [], zyh321, 0, 0), [], 0), (zyx110r, zyh321), 45, 5460)
set_option maxRecDepth 100000 in
theorem zyx110c : zchkX [(94, 15)] zprog2 (zovW [zyx109d, zyx103d]) 100000 k2X8_product [zyx104q, zyx98q, zyx92q, zyx86q, zyx80q, zyx74q, zyx68q, zyx62q, zyx56q, zyx50q] [zyx110q] [zyx110q] = true := by decide +kernel
theorem zyx110k {l : Launch} {D : va_G} {tys : List (ClassId × FieldType)} {o : zO} {z : Nat} (E : zEnv tys) : zPtOk l D vwCl tys o z (zXX o z) zTs m2X8_product zyx110q := zkn_pt E (fun g => List.forall_mem_cons.mpr ⟨zyx109 (o := zwith o g) E, List.forall_mem_cons.mpr ⟨zyx103 (o := zwith o g) E, fun _ h => absurd h List.not_mem_nil⟩⟩) (show zget zprog2 265 = some m2X8_product from rfl) (List.forall_mem_cons.mpr ⟨zyx104k E, List.forall_mem_cons.mpr ⟨zyx98k E, List.forall_mem_cons.mpr ⟨zyx92k E, List.forall_mem_cons.mpr ⟨zyx86k E, List.forall_mem_cons.mpr ⟨zyx80k E, List.forall_mem_cons.mpr ⟨zyx74k E, List.forall_mem_cons.mpr ⟨zyx68k E, List.forall_mem_cons.mpr ⟨zyx62k E, List.forall_mem_cons.mpr ⟨zyx56k E, List.forall_mem_cons.mpr ⟨zyx50k E, fun _ h => absurd h List.not_mem_nil⟩⟩⟩⟩⟩⟩⟩⟩⟩⟩) zyx110c _ List.mem_cons_self
noncomputable def zyx110d : zKw := (265, 5, 45, 5460, zyx110a, zyh260, [(zyx110r, zyh321)])
set_option maxRecDepth 100000 in
theorem zyx110e : zrunw zprog2 (zovW [zyx109d, zyx103d]) 100000 (zcutW [(94, 15)] none ((zyx110r, zyh321), 45, 5460) [zyx110q, zyx104q, zyx98q, zyx92q, zyx86q, zyx80q, zyx74q, zyx68q, zyx62q, zyx56q, zyx50q]) 45 5460 k2X8_product (zkin zyx110r zyh321) 0 (zargs 0 zyx110a, [], (zyh260.1, zyh260.2.1, 0), 0, 0) = true := by decide +kernel
theorem zyx110 {l : Launch} {D : va_G} {tys : List (ClassId × FieldType)} {o : zO} {z : Nat} (E : zEnv tys) : zKnW l D vwCl tys o z (zXX o z) zTs zprog2 zyx110d :=
  zkn_mk E (fun g => List.forall_mem_cons.mpr ⟨zyx109 (o := zwith o g) E, List.forall_mem_cons.mpr ⟨zyx103 (o := zwith o g) E, fun _ h => absurd h List.not_mem_nil⟩⟩) (show zget zprog2 265 = some m2X8_product from rfl) rfl (by decide) (by decide) (by decide) (by decide) (G := [zyx110q, zyx104q, zyx98q, zyx92q, zyx86q, zyx80q, zyx74q, zyx68q, zyx62q, zyx56q, zyx50q]) (List.forall_mem_cons.mpr ⟨zyx110k E, List.forall_mem_cons.mpr ⟨zyx104k E, List.forall_mem_cons.mpr ⟨zyx98k E, List.forall_mem_cons.mpr ⟨zyx92k E, List.forall_mem_cons.mpr ⟨zyx86k E, List.forall_mem_cons.mpr ⟨zyx80k E, List.forall_mem_cons.mpr ⟨zyx74k E, List.forall_mem_cons.mpr ⟨zyx68k E, List.forall_mem_cons.mpr ⟨zyx62k E, List.forall_mem_cons.mpr ⟨zyx56k E, List.forall_mem_cons.mpr ⟨zyx50k E, fun _ h => absurd h List.not_mem_nil⟩⟩⟩⟩⟩⟩⟩⟩⟩⟩⟩) zyx110e
/-! X8_sum ((('r', 99), 40, 30),) -/
noncomputable def zyx111a : List zAV := [.inr (.inr (.inl 94)), .inl ((.ofNat 1, .ofNat 4), none)]
def zyx111r : Option zAV := some (.inl ((.negSucc 2147483647, .ofNat 2147483647), none))
noncomputable def zyx111q : zPw := ((6, ([(0, .inr (.inr (.inl 94))), (1, .inl ((.ofNat 0, .ofNat 4), some (1, .ofNat 0))), (2, .inl ((.negSucc 2147483647, .ofNat 2147483647), some (2, .ofNat 0)))], [], zyh321, 0, 0), [], 0), (zyx111r, zyh321), 46, 5580)
set_option maxRecDepth 100000 in
theorem zyx111c : zchkX [(94, 15)] zprog2 (zovW [zyx110d, zyx104d]) 100000 kX8_sum [zyx105q, zyx99q, zyx93q, zyx87q, zyx81q, zyx75q, zyx69q, zyx63q, zyx57q, zyx51q] [zyx111q] [zyx111q] = true := by decide +kernel
theorem zyx111k {l : Launch} {D : va_G} {tys : List (ClassId × FieldType)} {o : zO} {z : Nat} (E : zEnv tys) : zPtOk l D vwCl tys o z (zXX o z) zTs mX8_sum zyx111q := zkn_pt E (fun g => List.forall_mem_cons.mpr ⟨zyx110 (o := zwith o g) E, List.forall_mem_cons.mpr ⟨zyx104 (o := zwith o g) E, fun _ h => absurd h List.not_mem_nil⟩⟩) (show zget zprog2 284 = some mX8_sum from rfl) (List.forall_mem_cons.mpr ⟨zyx105k E, List.forall_mem_cons.mpr ⟨zyx99k E, List.forall_mem_cons.mpr ⟨zyx93k E, List.forall_mem_cons.mpr ⟨zyx87k E, List.forall_mem_cons.mpr ⟨zyx81k E, List.forall_mem_cons.mpr ⟨zyx75k E, List.forall_mem_cons.mpr ⟨zyx69k E, List.forall_mem_cons.mpr ⟨zyx63k E, List.forall_mem_cons.mpr ⟨zyx57k E, List.forall_mem_cons.mpr ⟨zyx51k E, fun _ h => absurd h List.not_mem_nil⟩⟩⟩⟩⟩⟩⟩⟩⟩⟩) zyx111c _ List.mem_cons_self
noncomputable def zyx111d : zKw := (284, 5, 46, 5580, zyx111a, zyh260, [(zyx111r, zyh321)])
set_option maxRecDepth 100000 in
theorem zyx111e : zrunw zprog2 (zovW [zyx110d, zyx104d]) 100000 (zcutW [(94, 15)] none ((zyx111r, zyh321), 46, 5580) [zyx111q, zyx105q, zyx99q, zyx93q, zyx87q, zyx81q, zyx75q, zyx69q, zyx63q, zyx57q, zyx51q]) 46 5580 kX8_sum (zkin zyx111r zyh321) 0 (zargs 0 zyx111a, [], (zyh260.1, zyh260.2.1, 0), 0, 0) = true := by decide +kernel
theorem zyx111 {l : Launch} {D : va_G} {tys : List (ClassId × FieldType)} {o : zO} {z : Nat} (E : zEnv tys) : zKnW l D vwCl tys o z (zXX o z) zTs zprog2 zyx111d :=
  zkn_mk E (fun g => List.forall_mem_cons.mpr ⟨zyx110 (o := zwith o g) E, List.forall_mem_cons.mpr ⟨zyx104 (o := zwith o g) E, fun _ h => absurd h List.not_mem_nil⟩⟩) (show zget zprog2 284 = some mX8_sum from rfl) rfl (by decide) (by decide) (by decide) (by decide) (G := [zyx111q, zyx105q, zyx99q, zyx93q, zyx87q, zyx81q, zyx75q, zyx69q, zyx63q, zyx57q, zyx51q]) (List.forall_mem_cons.mpr ⟨zyx111k E, List.forall_mem_cons.mpr ⟨zyx105k E, List.forall_mem_cons.mpr ⟨zyx99k E, List.forall_mem_cons.mpr ⟨zyx93k E, List.forall_mem_cons.mpr ⟨zyx87k E, List.forall_mem_cons.mpr ⟨zyx81k E, List.forall_mem_cons.mpr ⟨zyx75k E, List.forall_mem_cons.mpr ⟨zyx69k E, List.forall_mem_cons.mpr ⟨zyx63k E, List.forall_mem_cons.mpr ⟨zyx57k E, List.forall_mem_cons.mpr ⟨zyx51k E, fun _ h => absurd h List.not_mem_nil⟩⟩⟩⟩⟩⟩⟩⟩⟩⟩⟩) zyx111e
/-! X8_heldBy -/
noncomputable def zyx112a : List zAV := [.inr (.inr (.inl 94)), .inl ((.ofNat 1, .ofNat 4), none)]
def zyx112r : Option zAV := some (.inl ((.negSucc 2147483647, .ofNat 2147483647), none))
noncomputable def zyx112p : List zPw := []
noncomputable def zyx112d : zKw := (229, 3, 47, 5700, zyx112a, zyh260, [(zyx112r, zyh321)])
set_option maxRecDepth 100000 in
theorem zyx112e : zrunw zprog2 (zovW [zyx111d, zyx105d, zyx38d]) 100000 (zcutW [] none ((zyx112r, zyh321), 47, 5700) zyx112p) 47 5700 kX8_heldBy (zkin zyx112r zyh321) 0 (zargs 0 zyx112a, [], (zyh260.1, zyh260.2.1, 0), 0, 0) = true := by decide +kernel
theorem zyx112 {l : Launch} {D : va_G} {tys : List (ClassId × FieldType)} {o : zO} {z : Nat} (E : zEnv tys) : zKnW l D vwCl tys o z (zXX o z) zTs zprog2 zyx112d :=
  zkn_mk E (fun g => List.forall_mem_cons.mpr ⟨zyx111 (o := zwith o g) E, List.forall_mem_cons.mpr ⟨zyx105 (o := zwith o g) E, List.forall_mem_cons.mpr ⟨zyx38 (o := zwith o g) E, fun _ h => absurd h List.not_mem_nil⟩⟩⟩) (show zget zprog2 229 = some mX8_heldBy from rfl) rfl (by decide) (by decide) (by decide) (by decide) (G := zyx112p) (fun _ h => absurd h List.not_mem_nil) zyx112e
/-! X8_oneOf -/
noncomputable def zyx113a : List zAV := [zyv320, zyv362, zyv363]
noncomputable def zyx113q : List (Option zAV × zH) := [(some (.inl ((.ofNat 0, .ofNat 0), none)), zyh322), (some (.inl ((.negSucc 175, .ofNat 79), none)), zyh323)]
noncomputable def zyx113d : zKw := (260, 3, 4, 480, zyx113a, zyh257, zyx113q)
set_option maxRecDepth 100000 in
theorem zyx113e : zrunw zprog2 (zovW []) 100000 zcut0 4 480 kX8_oneOf (zkinL zyx113q) 0 (zargs 0 zyx113a, [], (zyh257.1, zyh257.2.1, 0), 0, 0) = true := by decide +kernel
theorem zyx113 {l : Launch} {D : va_G} {tys : List (ClassId × FieldType)} {o : zO} {z : Nat} (E : zEnv tys) : zKnW l D vwCl tys o z (zXX o z) zTs zprog2 zyx113d :=
  zkn_ml E (fun g => fun _ h => absurd h List.not_mem_nil) (show zget zprog2 260 = some mX8_oneOf from rfl) rfl (by decide) (by decide) (by decide) (by decide) zyx113e
/-! X8_number -/
noncomputable def zyx114a : List zAV := [.inr (.inr (.inl 94)), .inl ((.ofNat 3, .ofNat 3), none)]
def zyx114r : Option zAV := some (.inl ((.negSucc 2147483647, .ofNat 2147483647), none))
noncomputable def zyx114p : List zPw := [((11, ([(0, .inr (.inr (.inl 94))), (1, .inl ((.ofNat 3, .ofNat 3), some (1, .ofNat 0))), (2, .inl ((.negSucc 2147483647, .ofNat 2147483647), some (2, .ofNat 0))), (3, .inl ((.ofNat 1, .ofNat 3), some (3, .ofNat 0)))], [], zyh324, 0, 0), [(3, .negSucc 1)], .ofNat 7), (zyx114r, zyh324), 5, 600)]
noncomputable def zyx114d : zKw := (259, 4, 5, 600, zyx114a, zyh257, [(zyx114r, zyh324)])
set_option maxRecDepth 100000 in
theorem zyx114c : zchkX [] zprog2 (zovW [zyx113d]) 100000 kX8_number [] zyx114p zyx114p = true := by decide +kernel
set_option maxRecDepth 100000 in
theorem zyx114e : zrunw zprog2 (zovW [zyx113d]) 100000 (zcutW [] none ((zyx114r, zyh324), 5, 600) zyx114p) 5 600 kX8_number (zkin zyx114r zyh324) 0 (zargs 0 zyx114a, [], (zyh257.1, zyh257.2.1, 0), 0, 0) = true := by decide +kernel
theorem zyx114 {l : Launch} {D : va_G} {tys : List (ClassId × FieldType)} {o : zO} {z : Nat} (E : zEnv tys) : zKnW l D vwCl tys o z (zXX o z) zTs zprog2 zyx114d :=
  zkn_mk E (fun g => List.forall_mem_cons.mpr ⟨zyx113 (o := zwith o g) E, fun _ h => absurd h List.not_mem_nil⟩) (show zget zprog2 259 = some mX8_number from rfl) rfl (by decide) (by decide) (by decide) (by decide) (G := zyx114p) (zkn_pt E (fun g => List.forall_mem_cons.mpr ⟨zyx113 (o := zwith o g) E, fun _ h => absurd h List.not_mem_nil⟩) (show zget zprog2 259 = some mX8_number from rfl) (fun _ h => absurd h List.not_mem_nil) zyx114c) zyx114e
/-! X8_thing -/
noncomputable def zyx115a : List zAV := [.inr (.inr (.inl 94)), .inl ((.ofNat 0, .ofNat 4), none)]
def zyx115r : Option zAV := some (.inl ((.negSucc 2147483647, .ofNat 2147483647), none))
noncomputable def zyx115p : List zPw := []
noncomputable def zyx115d : zKw := (292, 4, 48, 5820, zyx115a, zyh257, [(zyx115r, zyh324)])
set_option maxRecDepth 100000 in
theorem zyx115e : zrunw zprog2 (zovW [zyx114d, zyx112d, zyx109d, zyx37d, zyx38d]) 100000 (zcutW [] none ((zyx115r, zyh324), 48, 5820) zyx115p) 48 5820 k2X8_thing (zkin zyx115r zyh324) 0 (zargs 0 zyx115a, [], (zyh257.1, zyh257.2.1, 0), 0, 0) = true := by decide +kernel
theorem zyx115 {l : Launch} {D : va_G} {tys : List (ClassId × FieldType)} {o : zO} {z : Nat} (E : zEnv tys) : zKnW l D vwCl tys o z (zXX o z) zTs zprog2 zyx115d :=
  zkn_mk E (fun g => List.forall_mem_cons.mpr ⟨zyx114 (o := zwith o g) E, List.forall_mem_cons.mpr ⟨zyx112 (o := zwith o g) E, List.forall_mem_cons.mpr ⟨zyx109 (o := zwith o g) E, List.forall_mem_cons.mpr ⟨zyx37 (o := zwith o g) E, List.forall_mem_cons.mpr ⟨zyx38 (o := zwith o g) E, fun _ h => absurd h List.not_mem_nil⟩⟩⟩⟩⟩) (show zget zprog2 292 = some m2X8_thing from rfl) rfl (by decide) (by decide) (by decide) (by decide) (G := zyx115p) (fun _ h => absurd h List.not_mem_nil) zyx115e
/-! X8_product ((('r', 99), 40, 29),) -/
noncomputable def zyx116a : List zAV := [.inr (.inr (.inl 94)), .inl ((.ofNat 0, .ofNat 4), none)]
def zyx116r : Option zAV := some (.inl ((.negSucc 2147483647, .ofNat 2147483647), none))
noncomputable def zyx116q : zPw := ((6, ([(0, .inr (.inr (.inl 94))), (1, .inl ((.ofNat 0, .ofNat 4), some (1, .ofNat 0))), (2, .inl ((.negSucc 2147483647, .ofNat 2147483647), some (2, .ofNat 0)))], [], zyh324, 0, 0), [], 0), (zyx116r, zyh324), 49, 5940)
set_option maxRecDepth 100000 in
theorem zyx116c : zchkX [(94, 15)] zprog2 (zovW [zyx115d, zyx109d]) 100000 k2X8_product [zyx110q, zyx104q, zyx98q, zyx92q, zyx86q, zyx80q, zyx74q, zyx68q, zyx62q, zyx56q, zyx50q] [zyx116q] [zyx116q] = true := by decide +kernel
theorem zyx116k {l : Launch} {D : va_G} {tys : List (ClassId × FieldType)} {o : zO} {z : Nat} (E : zEnv tys) : zPtOk l D vwCl tys o z (zXX o z) zTs m2X8_product zyx116q := zkn_pt E (fun g => List.forall_mem_cons.mpr ⟨zyx115 (o := zwith o g) E, List.forall_mem_cons.mpr ⟨zyx109 (o := zwith o g) E, fun _ h => absurd h List.not_mem_nil⟩⟩) (show zget zprog2 265 = some m2X8_product from rfl) (List.forall_mem_cons.mpr ⟨zyx110k E, List.forall_mem_cons.mpr ⟨zyx104k E, List.forall_mem_cons.mpr ⟨zyx98k E, List.forall_mem_cons.mpr ⟨zyx92k E, List.forall_mem_cons.mpr ⟨zyx86k E, List.forall_mem_cons.mpr ⟨zyx80k E, List.forall_mem_cons.mpr ⟨zyx74k E, List.forall_mem_cons.mpr ⟨zyx68k E, List.forall_mem_cons.mpr ⟨zyx62k E, List.forall_mem_cons.mpr ⟨zyx56k E, List.forall_mem_cons.mpr ⟨zyx50k E, fun _ h => absurd h List.not_mem_nil⟩⟩⟩⟩⟩⟩⟩⟩⟩⟩⟩) zyx116c _ List.mem_cons_self
noncomputable def zyx116d : zKw := (265, 5, 49, 5940, zyx116a, zyh257, [(zyx116r, zyh324)])
set_option maxRecDepth 100000 in
theorem zyx116e : zrunw zprog2 (zovW [zyx115d, zyx109d]) 100000 (zcutW [(94, 15)] none ((zyx116r, zyh324), 49, 5940) [zyx116q, zyx110q, zyx104q, zyx98q, zyx92q, zyx86q, zyx80q, zyx74q, zyx68q, zyx62q, zyx56q, zyx50q]) 49 5940 k2X8_product (zkin zyx116r zyh324) 0 (zargs 0 zyx116a, [], (zyh257.1, zyh257.2.1, 0), 0, 0) = true := by decide +kernel
theorem zyx116 {l : Launch} {D : va_G} {tys : List (ClassId × FieldType)} {o : zO} {z : Nat} (E : zEnv tys) : zKnW l D vwCl tys o z (zXX o z) zTs zprog2 zyx116d :=
  zkn_mk E (fun g => List.forall_mem_cons.mpr ⟨zyx115 (o := zwith o g) E, List.forall_mem_cons.mpr ⟨zyx109 (o := zwith o g) E, fun _ h => absurd h List.not_mem_nil⟩⟩) (show zget zprog2 265 = some m2X8_product from rfl) rfl (by decide) (by decide) (by decide) (by decide) (G := [zyx116q, zyx110q, zyx104q, zyx98q, zyx92q, zyx86q, zyx80q, zyx74q, zyx68q, zyx62q, zyx56q, zyx50q]) (List.forall_mem_cons.mpr ⟨zyx116k E, List.forall_mem_cons.mpr ⟨zyx110k E, List.forall_mem_cons.mpr ⟨zyx104k E, List.forall_mem_cons.mpr ⟨zyx98k E, List.forall_mem_cons.mpr ⟨zyx92k E, List.forall_mem_cons.mpr ⟨zyx86k E, List.forall_mem_cons.mpr ⟨zyx80k E, List.forall_mem_cons.mpr ⟨zyx74k E, List.forall_mem_cons.mpr ⟨zyx68k E, List.forall_mem_cons.mpr ⟨zyx62k E, List.forall_mem_cons.mpr ⟨zyx56k E, List.forall_mem_cons.mpr ⟨zyx50k E, fun _ h => absurd h List.not_mem_nil⟩⟩⟩⟩⟩⟩⟩⟩⟩⟩⟩⟩) zyx116e
/-! X8_sum ((('r', 99), 40, 29),) -/
noncomputable def zyx117a : List zAV := [.inr (.inr (.inl 94)), .inl ((.ofNat 1, .ofNat 4), none)]
def zyx117r : Option zAV := some (.inl ((.negSucc 2147483647, .ofNat 2147483647), none))
noncomputable def zyx117q : zPw := ((6, ([(0, .inr (.inr (.inl 94))), (1, .inl ((.ofNat 0, .ofNat 4), some (1, .ofNat 0))), (2, .inl ((.negSucc 2147483647, .ofNat 2147483647), some (2, .ofNat 0)))], [], zyh324, 0, 0), [], 0), (zyx117r, zyh324), 50, 6060)
set_option maxRecDepth 100000 in
theorem zyx117c : zchkX [(94, 15)] zprog2 (zovW [zyx116d, zyx110d]) 100000 kX8_sum [zyx111q, zyx105q, zyx99q, zyx93q, zyx87q, zyx81q, zyx75q, zyx69q, zyx63q, zyx57q, zyx51q] [zyx117q] [zyx117q] = true := by decide +kernel
theorem zyx117k {l : Launch} {D : va_G} {tys : List (ClassId × FieldType)} {o : zO} {z : Nat} (E : zEnv tys) : zPtOk l D vwCl tys o z (zXX o z) zTs mX8_sum zyx117q := zkn_pt E (fun g => List.forall_mem_cons.mpr ⟨zyx116 (o := zwith o g) E, List.forall_mem_cons.mpr ⟨zyx110 (o := zwith o g) E, fun _ h => absurd h List.not_mem_nil⟩⟩) (show zget zprog2 284 = some mX8_sum from rfl) (List.forall_mem_cons.mpr ⟨zyx111k E, List.forall_mem_cons.mpr ⟨zyx105k E, List.forall_mem_cons.mpr ⟨zyx99k E, List.forall_mem_cons.mpr ⟨zyx93k E, List.forall_mem_cons.mpr ⟨zyx87k E, List.forall_mem_cons.mpr ⟨zyx81k E, List.forall_mem_cons.mpr ⟨zyx75k E, List.forall_mem_cons.mpr ⟨zyx69k E, List.forall_mem_cons.mpr ⟨zyx63k E, List.forall_mem_cons.mpr ⟨zyx57k E, List.forall_mem_cons.mpr ⟨zyx51k E, fun _ h => absurd h List.not_mem_nil⟩⟩⟩⟩⟩⟩⟩⟩⟩⟩⟩) zyx117c _ List.mem_cons_self
noncomputable def zyx117d : zKw := (284, 5, 50, 6060, zyx117a, zyh257, [(zyx117r, zyh324)])
set_option maxRecDepth 100000 in
theorem zyx117e : zrunw zprog2 (zovW [zyx116d, zyx110d]) 100000 (zcutW [(94, 15)] none ((zyx117r, zyh324), 50, 6060) [zyx117q, zyx111q, zyx105q, zyx99q, zyx93q, zyx87q, zyx81q, zyx75q, zyx69q, zyx63q, zyx57q, zyx51q]) 50 6060 kX8_sum (zkin zyx117r zyh324) 0 (zargs 0 zyx117a, [], (zyh257.1, zyh257.2.1, 0), 0, 0) = true := by decide +kernel
theorem zyx117 {l : Launch} {D : va_G} {tys : List (ClassId × FieldType)} {o : zO} {z : Nat} (E : zEnv tys) : zKnW l D vwCl tys o z (zXX o z) zTs zprog2 zyx117d :=
  zkn_mk E (fun g => List.forall_mem_cons.mpr ⟨zyx116 (o := zwith o g) E, List.forall_mem_cons.mpr ⟨zyx110 (o := zwith o g) E, fun _ h => absurd h List.not_mem_nil⟩⟩) (show zget zprog2 284 = some mX8_sum from rfl) rfl (by decide) (by decide) (by decide) (by decide) (G := [zyx117q, zyx111q, zyx105q, zyx99q, zyx93q, zyx87q, zyx81q, zyx75q, zyx69q, zyx63q, zyx57q, zyx51q]) (List.forall_mem_cons.mpr ⟨zyx117k E, List.forall_mem_cons.mpr ⟨zyx111k E, List.forall_mem_cons.mpr ⟨zyx105k E, List.forall_mem_cons.mpr ⟨zyx99k E, List.forall_mem_cons.mpr ⟨zyx93k E, List.forall_mem_cons.mpr ⟨zyx87k E, List.forall_mem_cons.mpr ⟨zyx81k E, List.forall_mem_cons.mpr ⟨zyx75k E, List.forall_mem_cons.mpr ⟨zyx69k E, List.forall_mem_cons.mpr ⟨zyx63k E, List.forall_mem_cons.mpr ⟨zyx57k E, List.forall_mem_cons.mpr ⟨zyx51k E, fun _ h => absurd h List.not_mem_nil⟩⟩⟩⟩⟩⟩⟩⟩⟩⟩⟩⟩) zyx117e
/-! X8_heldBy -/
noncomputable def zyx118a : List zAV := [.inr (.inr (.inl 94)), .inl ((.ofNat 1, .ofNat 4), none)]
def zyx118r : Option zAV := some (.inl ((.negSucc 2147483647, .ofNat 2147483647), none))
noncomputable def zyx118p : List zPw := []
noncomputable def zyx118d : zKw := (229, 3, 51, 6180, zyx118a, zyh257, [(zyx118r, zyh324)])
set_option maxRecDepth 100000 in
theorem zyx118e : zrunw zprog2 (zovW [zyx117d, zyx111d, zyx37d]) 100000 (zcutW [] none ((zyx118r, zyh324), 51, 6180) zyx118p) 51 6180 kX8_heldBy (zkin zyx118r zyh324) 0 (zargs 0 zyx118a, [], (zyh257.1, zyh257.2.1, 0), 0, 0) = true := by decide +kernel
theorem zyx118 {l : Launch} {D : va_G} {tys : List (ClassId × FieldType)} {o : zO} {z : Nat} (E : zEnv tys) : zKnW l D vwCl tys o z (zXX o z) zTs zprog2 zyx118d :=
  zkn_mk E (fun g => List.forall_mem_cons.mpr ⟨zyx117 (o := zwith o g) E, List.forall_mem_cons.mpr ⟨zyx111 (o := zwith o g) E, List.forall_mem_cons.mpr ⟨zyx37 (o := zwith o g) E, fun _ h => absurd h List.not_mem_nil⟩⟩⟩) (show zget zprog2 229 = some mX8_heldBy from rfl) rfl (by decide) (by decide) (by decide) (by decide) (G := zyx118p) (fun _ h => absurd h List.not_mem_nil) zyx118e
/-! X8_oneOf -/
noncomputable def zyx119a : List zAV := [zyv320, zyv362, zyv363]
noncomputable def zyx119q : List (Option zAV × zH) := [(some (.inl ((.ofNat 0, .ofNat 0), none)), zyh325), (some (.inl ((.negSucc 175, .ofNat 79), none)), zyh326)]
noncomputable def zyx119d : zKw := (260, 3, 4, 480, zyx119a, zyh254, zyx119q)
set_option maxRecDepth 100000 in
theorem zyx119e : zrunw zprog2 (zovW []) 100000 zcut0 4 480 kX8_oneOf (zkinL zyx119q) 0 (zargs 0 zyx119a, [], (zyh254.1, zyh254.2.1, 0), 0, 0) = true := by decide +kernel
theorem zyx119 {l : Launch} {D : va_G} {tys : List (ClassId × FieldType)} {o : zO} {z : Nat} (E : zEnv tys) : zKnW l D vwCl tys o z (zXX o z) zTs zprog2 zyx119d :=
  zkn_ml E (fun g => fun _ h => absurd h List.not_mem_nil) (show zget zprog2 260 = some mX8_oneOf from rfl) rfl (by decide) (by decide) (by decide) (by decide) zyx119e
/-! X8_number -/
noncomputable def zyx120a : List zAV := [.inr (.inr (.inl 94)), .inl ((.ofNat 3, .ofNat 3), none)]
def zyx120r : Option zAV := some (.inl ((.negSucc 2147483647, .ofNat 2147483647), none))
noncomputable def zyx120p : List zPw := [((11, ([(0, .inr (.inr (.inl 94))), (1, .inl ((.ofNat 3, .ofNat 3), some (1, .ofNat 0))), (2, .inl ((.negSucc 2147483647, .ofNat 2147483647), some (2, .ofNat 0))), (3, .inl ((.ofNat 1, .ofNat 3), some (3, .ofNat 0)))], [], zyh327, 0, 0), [(3, .negSucc 1)], .ofNat 7), (zyx120r, zyh327), 5, 600)]
noncomputable def zyx120d : zKw := (259, 4, 5, 600, zyx120a, zyh254, [(zyx120r, zyh327)])
set_option maxRecDepth 100000 in
theorem zyx120c : zchkX [] zprog2 (zovW [zyx119d]) 100000 kX8_number [] zyx120p zyx120p = true := by decide +kernel
set_option maxRecDepth 100000 in
theorem zyx120e : zrunw zprog2 (zovW [zyx119d]) 100000 (zcutW [] none ((zyx120r, zyh327), 5, 600) zyx120p) 5 600 kX8_number (zkin zyx120r zyh327) 0 (zargs 0 zyx120a, [], (zyh254.1, zyh254.2.1, 0), 0, 0) = true := by decide +kernel
theorem zyx120 {l : Launch} {D : va_G} {tys : List (ClassId × FieldType)} {o : zO} {z : Nat} (E : zEnv tys) : zKnW l D vwCl tys o z (zXX o z) zTs zprog2 zyx120d :=
  zkn_mk E (fun g => List.forall_mem_cons.mpr ⟨zyx119 (o := zwith o g) E, fun _ h => absurd h List.not_mem_nil⟩) (show zget zprog2 259 = some mX8_number from rfl) rfl (by decide) (by decide) (by decide) (by decide) (G := zyx120p) (zkn_pt E (fun g => List.forall_mem_cons.mpr ⟨zyx119 (o := zwith o g) E, fun _ h => absurd h List.not_mem_nil⟩) (show zget zprog2 259 = some mX8_number from rfl) (fun _ h => absurd h List.not_mem_nil) zyx120c) zyx120e
/-! X8_thing -/
noncomputable def zyx121a : List zAV := [.inr (.inr (.inl 94)), .inl ((.ofNat 0, .ofNat 4), none)]
def zyx121r : Option zAV := some (.inl ((.negSucc 2147483647, .ofNat 2147483647), none))
noncomputable def zyx121p : List zPw := []
noncomputable def zyx121d : zKw := (292, 4, 52, 6300, zyx121a, zyh254, [(zyx121r, zyh327)])
set_option maxRecDepth 100000 in
theorem zyx121e : zrunw zprog2 (zovW [zyx120d, zyx118d, zyx115d, zyx36d, zyx37d]) 100000 (zcutW [] none ((zyx121r, zyh327), 52, 6300) zyx121p) 52 6300 k2X8_thing (zkin zyx121r zyh327) 0 (zargs 0 zyx121a, [], (zyh254.1, zyh254.2.1, 0), 0, 0) = true := by decide +kernel
theorem zyx121 {l : Launch} {D : va_G} {tys : List (ClassId × FieldType)} {o : zO} {z : Nat} (E : zEnv tys) : zKnW l D vwCl tys o z (zXX o z) zTs zprog2 zyx121d :=
  zkn_mk E (fun g => List.forall_mem_cons.mpr ⟨zyx120 (o := zwith o g) E, List.forall_mem_cons.mpr ⟨zyx118 (o := zwith o g) E, List.forall_mem_cons.mpr ⟨zyx115 (o := zwith o g) E, List.forall_mem_cons.mpr ⟨zyx36 (o := zwith o g) E, List.forall_mem_cons.mpr ⟨zyx37 (o := zwith o g) E, fun _ h => absurd h List.not_mem_nil⟩⟩⟩⟩⟩) (show zget zprog2 292 = some m2X8_thing from rfl) rfl (by decide) (by decide) (by decide) (by decide) (G := zyx121p) (fun _ h => absurd h List.not_mem_nil) zyx121e
/-! X8_product ((('r', 99), 40, 28),) -/
noncomputable def zyx122a : List zAV := [.inr (.inr (.inl 94)), .inl ((.ofNat 0, .ofNat 4), none)]
def zyx122r : Option zAV := some (.inl ((.negSucc 2147483647, .ofNat 2147483647), none))
noncomputable def zyx122q : zPw := ((6, ([(0, .inr (.inr (.inl 94))), (1, .inl ((.ofNat 0, .ofNat 4), some (1, .ofNat 0))), (2, .inl ((.negSucc 2147483647, .ofNat 2147483647), some (2, .ofNat 0)))], [], zyh327, 0, 0), [], 0), (zyx122r, zyh327), 53, 6420)
set_option maxRecDepth 100000 in
theorem zyx122c : zchkX [(94, 15)] zprog2 (zovW [zyx121d, zyx115d]) 100000 k2X8_product [zyx116q, zyx110q, zyx104q, zyx98q, zyx92q, zyx86q, zyx80q, zyx74q, zyx68q, zyx62q, zyx56q, zyx50q] [zyx122q] [zyx122q] = true := by decide +kernel
theorem zyx122k {l : Launch} {D : va_G} {tys : List (ClassId × FieldType)} {o : zO} {z : Nat} (E : zEnv tys) : zPtOk l D vwCl tys o z (zXX o z) zTs m2X8_product zyx122q := zkn_pt E (fun g => List.forall_mem_cons.mpr ⟨zyx121 (o := zwith o g) E, List.forall_mem_cons.mpr ⟨zyx115 (o := zwith o g) E, fun _ h => absurd h List.not_mem_nil⟩⟩) (show zget zprog2 265 = some m2X8_product from rfl) (List.forall_mem_cons.mpr ⟨zyx116k E, List.forall_mem_cons.mpr ⟨zyx110k E, List.forall_mem_cons.mpr ⟨zyx104k E, List.forall_mem_cons.mpr ⟨zyx98k E, List.forall_mem_cons.mpr ⟨zyx92k E, List.forall_mem_cons.mpr ⟨zyx86k E, List.forall_mem_cons.mpr ⟨zyx80k E, List.forall_mem_cons.mpr ⟨zyx74k E, List.forall_mem_cons.mpr ⟨zyx68k E, List.forall_mem_cons.mpr ⟨zyx62k E, List.forall_mem_cons.mpr ⟨zyx56k E, List.forall_mem_cons.mpr ⟨zyx50k E, fun _ h => absurd h List.not_mem_nil⟩⟩⟩⟩⟩⟩⟩⟩⟩⟩⟩⟩) zyx122c _ List.mem_cons_self
noncomputable def zyx122d : zKw := (265, 5, 53, 6420, zyx122a, zyh254, [(zyx122r, zyh327)])
set_option maxRecDepth 100000 in
theorem zyx122e : zrunw zprog2 (zovW [zyx121d, zyx115d]) 100000 (zcutW [(94, 15)] none ((zyx122r, zyh327), 53, 6420) [zyx122q, zyx116q, zyx110q, zyx104q, zyx98q, zyx92q, zyx86q, zyx80q, zyx74q, zyx68q, zyx62q, zyx56q, zyx50q]) 53 6420 k2X8_product (zkin zyx122r zyh327) 0 (zargs 0 zyx122a, [], (zyh254.1, zyh254.2.1, 0), 0, 0) = true := by decide +kernel
theorem zyx122 {l : Launch} {D : va_G} {tys : List (ClassId × FieldType)} {o : zO} {z : Nat} (E : zEnv tys) : zKnW l D vwCl tys o z (zXX o z) zTs zprog2 zyx122d :=
  zkn_mk E (fun g => List.forall_mem_cons.mpr ⟨zyx121 (o := zwith o g) E, List.forall_mem_cons.mpr ⟨zyx115 (o := zwith o g) E, fun _ h => absurd h List.not_mem_nil⟩⟩) (show zget zprog2 265 = some m2X8_product from rfl) rfl (by decide) (by decide) (by decide) (by decide) (G := [zyx122q, zyx116q, zyx110q, zyx104q, zyx98q, zyx92q, zyx86q, zyx80q, zyx74q, zyx68q, zyx62q, zyx56q, zyx50q]) (List.forall_mem_cons.mpr ⟨zyx122k E, List.forall_mem_cons.mpr ⟨zyx116k E, List.forall_mem_cons.mpr ⟨zyx110k E, List.forall_mem_cons.mpr ⟨zyx104k E, List.forall_mem_cons.mpr ⟨zyx98k E, List.forall_mem_cons.mpr ⟨zyx92k E, List.forall_mem_cons.mpr ⟨zyx86k E, List.forall_mem_cons.mpr ⟨zyx80k E, List.forall_mem_cons.mpr ⟨zyx74k E, List.forall_mem_cons.mpr ⟨zyx68k E, List.forall_mem_cons.mpr ⟨zyx62k E, List.forall_mem_cons.mpr ⟨zyx56k E, List.forall_mem_cons.mpr ⟨zyx50k E, fun _ h => absurd h List.not_mem_nil⟩⟩⟩⟩⟩⟩⟩⟩⟩⟩⟩⟩⟩) zyx122e
/-! X8_sum ((('r', 99), 40, 28),) -/
noncomputable def zyx123a : List zAV := [.inr (.inr (.inl 94)), .inl ((.ofNat 1, .ofNat 4), none)]
def zyx123r : Option zAV := some (.inl ((.negSucc 2147483647, .ofNat 2147483647), none))
noncomputable def zyx123q : zPw := ((6, ([(0, .inr (.inr (.inl 94))), (1, .inl ((.ofNat 0, .ofNat 4), some (1, .ofNat 0))), (2, .inl ((.negSucc 2147483647, .ofNat 2147483647), some (2, .ofNat 0)))], [], zyh327, 0, 0), [], 0), (zyx123r, zyh327), 54, 6540)
set_option maxRecDepth 100000 in
theorem zyx123c : zchkX [(94, 15)] zprog2 (zovW [zyx122d, zyx116d]) 100000 kX8_sum [zyx117q, zyx111q, zyx105q, zyx99q, zyx93q, zyx87q, zyx81q, zyx75q, zyx69q, zyx63q, zyx57q, zyx51q] [zyx123q] [zyx123q] = true := by decide +kernel
theorem zyx123k {l : Launch} {D : va_G} {tys : List (ClassId × FieldType)} {o : zO} {z : Nat} (E : zEnv tys) : zPtOk l D vwCl tys o z (zXX o z) zTs mX8_sum zyx123q := zkn_pt E (fun g => List.forall_mem_cons.mpr ⟨zyx122 (o := zwith o g) E, List.forall_mem_cons.mpr ⟨zyx116 (o := zwith o g) E, fun _ h => absurd h List.not_mem_nil⟩⟩) (show zget zprog2 284 = some mX8_sum from rfl) (List.forall_mem_cons.mpr ⟨zyx117k E, List.forall_mem_cons.mpr ⟨zyx111k E, List.forall_mem_cons.mpr ⟨zyx105k E, List.forall_mem_cons.mpr ⟨zyx99k E, List.forall_mem_cons.mpr ⟨zyx93k E, List.forall_mem_cons.mpr ⟨zyx87k E, List.forall_mem_cons.mpr ⟨zyx81k E, List.forall_mem_cons.mpr ⟨zyx75k E, List.forall_mem_cons.mpr ⟨zyx69k E, List.forall_mem_cons.mpr ⟨zyx63k E, List.forall_mem_cons.mpr ⟨zyx57k E, List.forall_mem_cons.mpr ⟨zyx51k E, fun _ h => absurd h List.not_mem_nil⟩⟩⟩⟩⟩⟩⟩⟩⟩⟩⟩⟩) zyx123c _ List.mem_cons_self
noncomputable def zyx123d : zKw := (284, 5, 54, 6540, zyx123a, zyh254, [(zyx123r, zyh327)])
set_option maxRecDepth 100000 in
theorem zyx123e : zrunw zprog2 (zovW [zyx122d, zyx116d]) 100000 (zcutW [(94, 15)] none ((zyx123r, zyh327), 54, 6540) [zyx123q, zyx117q, zyx111q, zyx105q, zyx99q, zyx93q, zyx87q, zyx81q, zyx75q, zyx69q, zyx63q, zyx57q, zyx51q]) 54 6540 kX8_sum (zkin zyx123r zyh327) 0 (zargs 0 zyx123a, [], (zyh254.1, zyh254.2.1, 0), 0, 0) = true := by decide +kernel
theorem zyx123 {l : Launch} {D : va_G} {tys : List (ClassId × FieldType)} {o : zO} {z : Nat} (E : zEnv tys) : zKnW l D vwCl tys o z (zXX o z) zTs zprog2 zyx123d :=
  zkn_mk E (fun g => List.forall_mem_cons.mpr ⟨zyx122 (o := zwith o g) E, List.forall_mem_cons.mpr ⟨zyx116 (o := zwith o g) E, fun _ h => absurd h List.not_mem_nil⟩⟩) (show zget zprog2 284 = some mX8_sum from rfl) rfl (by decide) (by decide) (by decide) (by decide) (G := [zyx123q, zyx117q, zyx111q, zyx105q, zyx99q, zyx93q, zyx87q, zyx81q, zyx75q, zyx69q, zyx63q, zyx57q, zyx51q]) (List.forall_mem_cons.mpr ⟨zyx123k E, List.forall_mem_cons.mpr ⟨zyx117k E, List.forall_mem_cons.mpr ⟨zyx111k E, List.forall_mem_cons.mpr ⟨zyx105k E, List.forall_mem_cons.mpr ⟨zyx99k E, List.forall_mem_cons.mpr ⟨zyx93k E, List.forall_mem_cons.mpr ⟨zyx87k E, List.forall_mem_cons.mpr ⟨zyx81k E, List.forall_mem_cons.mpr ⟨zyx75k E, List.forall_mem_cons.mpr ⟨zyx69k E, List.forall_mem_cons.mpr ⟨zyx63k E, List.forall_mem_cons.mpr ⟨zyx57k E, List.forall_mem_cons.mpr ⟨zyx51k E, fun _ h => absurd h List.not_mem_nil⟩⟩⟩⟩⟩⟩⟩⟩⟩⟩⟩⟩⟩) zyx123e
/-! X8_heldBy -/
noncomputable def zyx124a : List zAV := [.inr (.inr (.inl 94)), .inl ((.ofNat 1, .ofNat 4), none)]
def zyx124r : Option zAV := some (.inl ((.negSucc 2147483647, .ofNat 2147483647), none))
noncomputable def zyx124p : List zPw := []
noncomputable def zyx124d : zKw := (229, 3, 55, 6660, zyx124a, zyh254, [(zyx124r, zyh327)])
set_option maxRecDepth 100000 in
theorem zyx124e : zrunw zprog2 (zovW [zyx123d, zyx117d, zyx36d]) 100000 (zcutW [] none ((zyx124r, zyh327), 55, 6660) zyx124p) 55 6660 kX8_heldBy (zkin zyx124r zyh327) 0 (zargs 0 zyx124a, [], (zyh254.1, zyh254.2.1, 0), 0, 0) = true := by decide +kernel
theorem zyx124 {l : Launch} {D : va_G} {tys : List (ClassId × FieldType)} {o : zO} {z : Nat} (E : zEnv tys) : zKnW l D vwCl tys o z (zXX o z) zTs zprog2 zyx124d :=
  zkn_mk E (fun g => List.forall_mem_cons.mpr ⟨zyx123 (o := zwith o g) E, List.forall_mem_cons.mpr ⟨zyx117 (o := zwith o g) E, List.forall_mem_cons.mpr ⟨zyx36 (o := zwith o g) E, fun _ h => absurd h List.not_mem_nil⟩⟩⟩) (show zget zprog2 229 = some mX8_heldBy from rfl) rfl (by decide) (by decide) (by decide) (by decide) (G := zyx124p) (fun _ h => absurd h List.not_mem_nil) zyx124e
/-! X8_oneOf -/
noncomputable def zyx125a : List zAV := [zyv320, zyv362, zyv363]
noncomputable def zyx125q : List (Option zAV × zH) := [(some (.inl ((.ofNat 0, .ofNat 0), none)), zyh328), (some (.inl ((.negSucc 175, .ofNat 79), none)), zyh329)]
noncomputable def zyx125d : zKw := (260, 3, 4, 480, zyx125a, zyh251, zyx125q)
set_option maxRecDepth 100000 in
theorem zyx125e : zrunw zprog2 (zovW []) 100000 zcut0 4 480 kX8_oneOf (zkinL zyx125q) 0 (zargs 0 zyx125a, [], (zyh251.1, zyh251.2.1, 0), 0, 0) = true := by decide +kernel
theorem zyx125 {l : Launch} {D : va_G} {tys : List (ClassId × FieldType)} {o : zO} {z : Nat} (E : zEnv tys) : zKnW l D vwCl tys o z (zXX o z) zTs zprog2 zyx125d :=
  zkn_ml E (fun g => fun _ h => absurd h List.not_mem_nil) (show zget zprog2 260 = some mX8_oneOf from rfl) rfl (by decide) (by decide) (by decide) (by decide) zyx125e
/-! X8_number -/
noncomputable def zyx126a : List zAV := [.inr (.inr (.inl 94)), .inl ((.ofNat 3, .ofNat 3), none)]
def zyx126r : Option zAV := some (.inl ((.negSucc 2147483647, .ofNat 2147483647), none))
noncomputable def zyx126p : List zPw := [((11, ([(0, .inr (.inr (.inl 94))), (1, .inl ((.ofNat 3, .ofNat 3), some (1, .ofNat 0))), (2, .inl ((.negSucc 2147483647, .ofNat 2147483647), some (2, .ofNat 0))), (3, .inl ((.ofNat 1, .ofNat 3), some (3, .ofNat 0)))], [], zyh330, 0, 0), [(3, .negSucc 1)], .ofNat 7), (zyx126r, zyh330), 5, 600)]
noncomputable def zyx126d : zKw := (259, 4, 5, 600, zyx126a, zyh251, [(zyx126r, zyh330)])
set_option maxRecDepth 100000 in
theorem zyx126c : zchkX [] zprog2 (zovW [zyx125d]) 100000 kX8_number [] zyx126p zyx126p = true := by decide +kernel
set_option maxRecDepth 100000 in
theorem zyx126e : zrunw zprog2 (zovW [zyx125d]) 100000 (zcutW [] none ((zyx126r, zyh330), 5, 600) zyx126p) 5 600 kX8_number (zkin zyx126r zyh330) 0 (zargs 0 zyx126a, [], (zyh251.1, zyh251.2.1, 0), 0, 0) = true := by decide +kernel
theorem zyx126 {l : Launch} {D : va_G} {tys : List (ClassId × FieldType)} {o : zO} {z : Nat} (E : zEnv tys) : zKnW l D vwCl tys o z (zXX o z) zTs zprog2 zyx126d :=
  zkn_mk E (fun g => List.forall_mem_cons.mpr ⟨zyx125 (o := zwith o g) E, fun _ h => absurd h List.not_mem_nil⟩) (show zget zprog2 259 = some mX8_number from rfl) rfl (by decide) (by decide) (by decide) (by decide) (G := zyx126p) (zkn_pt E (fun g => List.forall_mem_cons.mpr ⟨zyx125 (o := zwith o g) E, fun _ h => absurd h List.not_mem_nil⟩) (show zget zprog2 259 = some mX8_number from rfl) (fun _ h => absurd h List.not_mem_nil) zyx126c) zyx126e
/-! X8_thing -/
noncomputable def zyx127a : List zAV := [.inr (.inr (.inl 94)), .inl ((.ofNat 0, .ofNat 4), none)]
def zyx127r : Option zAV := some (.inl ((.negSucc 2147483647, .ofNat 2147483647), none))
noncomputable def zyx127p : List zPw := []
noncomputable def zyx127d : zKw := (292, 4, 56, 6780, zyx127a, zyh251, [(zyx127r, zyh330)])
set_option maxRecDepth 100000 in
theorem zyx127e : zrunw zprog2 (zovW [zyx126d, zyx124d, zyx121d, zyx35d, zyx36d]) 100000 (zcutW [] none ((zyx127r, zyh330), 56, 6780) zyx127p) 56 6780 k2X8_thing (zkin zyx127r zyh330) 0 (zargs 0 zyx127a, [], (zyh251.1, zyh251.2.1, 0), 0, 0) = true := by decide +kernel
theorem zyx127 {l : Launch} {D : va_G} {tys : List (ClassId × FieldType)} {o : zO} {z : Nat} (E : zEnv tys) : zKnW l D vwCl tys o z (zXX o z) zTs zprog2 zyx127d :=
  zkn_mk E (fun g => List.forall_mem_cons.mpr ⟨zyx126 (o := zwith o g) E, List.forall_mem_cons.mpr ⟨zyx124 (o := zwith o g) E, List.forall_mem_cons.mpr ⟨zyx121 (o := zwith o g) E, List.forall_mem_cons.mpr ⟨zyx35 (o := zwith o g) E, List.forall_mem_cons.mpr ⟨zyx36 (o := zwith o g) E, fun _ h => absurd h List.not_mem_nil⟩⟩⟩⟩⟩) (show zget zprog2 292 = some m2X8_thing from rfl) rfl (by decide) (by decide) (by decide) (by decide) (G := zyx127p) (fun _ h => absurd h List.not_mem_nil) zyx127e
/-! X8_product ((('r', 99), 40, 27),) -/
noncomputable def zyx128a : List zAV := [.inr (.inr (.inl 94)), .inl ((.ofNat 0, .ofNat 4), none)]
def zyx128r : Option zAV := some (.inl ((.negSucc 2147483647, .ofNat 2147483647), none))
noncomputable def zyx128q : zPw := ((6, ([(0, .inr (.inr (.inl 94))), (1, .inl ((.ofNat 0, .ofNat 4), some (1, .ofNat 0))), (2, .inl ((.negSucc 2147483647, .ofNat 2147483647), some (2, .ofNat 0)))], [], zyh330, 0, 0), [], 0), (zyx128r, zyh330), 57, 6900)
set_option maxRecDepth 100000 in
theorem zyx128c : zchkX [(94, 15)] zprog2 (zovW [zyx127d, zyx121d]) 100000 k2X8_product [zyx122q, zyx116q, zyx110q, zyx104q, zyx98q, zyx92q, zyx86q, zyx80q, zyx74q, zyx68q, zyx62q, zyx56q, zyx50q] [zyx128q] [zyx128q] = true := by decide +kernel
theorem zyx128k {l : Launch} {D : va_G} {tys : List (ClassId × FieldType)} {o : zO} {z : Nat} (E : zEnv tys) : zPtOk l D vwCl tys o z (zXX o z) zTs m2X8_product zyx128q := zkn_pt E (fun g => List.forall_mem_cons.mpr ⟨zyx127 (o := zwith o g) E, List.forall_mem_cons.mpr ⟨zyx121 (o := zwith o g) E, fun _ h => absurd h List.not_mem_nil⟩⟩) (show zget zprog2 265 = some m2X8_product from rfl) (List.forall_mem_cons.mpr ⟨zyx122k E, List.forall_mem_cons.mpr ⟨zyx116k E, List.forall_mem_cons.mpr ⟨zyx110k E, List.forall_mem_cons.mpr ⟨zyx104k E, List.forall_mem_cons.mpr ⟨zyx98k E, List.forall_mem_cons.mpr ⟨zyx92k E, List.forall_mem_cons.mpr ⟨zyx86k E, List.forall_mem_cons.mpr ⟨zyx80k E, List.forall_mem_cons.mpr ⟨zyx74k E, List.forall_mem_cons.mpr ⟨zyx68k E, List.forall_mem_cons.mpr ⟨zyx62k E, List.forall_mem_cons.mpr ⟨zyx56k E, List.forall_mem_cons.mpr ⟨zyx50k E, fun _ h => absurd h List.not_mem_nil⟩⟩⟩⟩⟩⟩⟩⟩⟩⟩⟩⟩⟩) zyx128c _ List.mem_cons_self
noncomputable def zyx128d : zKw := (265, 5, 57, 6900, zyx128a, zyh251, [(zyx128r, zyh330)])
set_option maxRecDepth 100000 in
theorem zyx128e : zrunw zprog2 (zovW [zyx127d, zyx121d]) 100000 (zcutW [(94, 15)] none ((zyx128r, zyh330), 57, 6900) [zyx128q, zyx122q, zyx116q, zyx110q, zyx104q, zyx98q, zyx92q, zyx86q, zyx80q, zyx74q, zyx68q, zyx62q, zyx56q, zyx50q]) 57 6900 k2X8_product (zkin zyx128r zyh330) 0 (zargs 0 zyx128a, [], (zyh251.1, zyh251.2.1, 0), 0, 0) = true := by decide +kernel
theorem zyx128 {l : Launch} {D : va_G} {tys : List (ClassId × FieldType)} {o : zO} {z : Nat} (E : zEnv tys) : zKnW l D vwCl tys o z (zXX o z) zTs zprog2 zyx128d :=
  zkn_mk E (fun g => List.forall_mem_cons.mpr ⟨zyx127 (o := zwith o g) E, List.forall_mem_cons.mpr ⟨zyx121 (o := zwith o g) E, fun _ h => absurd h List.not_mem_nil⟩⟩) (show zget zprog2 265 = some m2X8_product from rfl) rfl (by decide) (by decide) (by decide) (by decide) (G := [zyx128q, zyx122q, zyx116q, zyx110q, zyx104q, zyx98q, zyx92q, zyx86q, zyx80q, zyx74q, zyx68q, zyx62q, zyx56q, zyx50q]) (List.forall_mem_cons.mpr ⟨zyx128k E, List.forall_mem_cons.mpr ⟨zyx122k E, List.forall_mem_cons.mpr ⟨zyx116k E, List.forall_mem_cons.mpr ⟨zyx110k E, List.forall_mem_cons.mpr ⟨zyx104k E, List.forall_mem_cons.mpr ⟨zyx98k E, List.forall_mem_cons.mpr ⟨zyx92k E, List.forall_mem_cons.mpr ⟨zyx86k E, List.forall_mem_cons.mpr ⟨zyx80k E, List.forall_mem_cons.mpr ⟨zyx74k E, List.forall_mem_cons.mpr ⟨zyx68k E, List.forall_mem_cons.mpr ⟨zyx62k E, List.forall_mem_cons.mpr ⟨zyx56k E, List.forall_mem_cons.mpr ⟨zyx50k E, fun _ h => absurd h List.not_mem_nil⟩⟩⟩⟩⟩⟩⟩⟩⟩⟩⟩⟩⟩⟩) zyx128e
/-! X8_sum ((('r', 99), 40, 27),) -/
noncomputable def zyx129a : List zAV := [.inr (.inr (.inl 94)), .inl ((.ofNat 1, .ofNat 4), none)]
def zyx129r : Option zAV := some (.inl ((.negSucc 2147483647, .ofNat 2147483647), none))
noncomputable def zyx129q : zPw := ((6, ([(0, .inr (.inr (.inl 94))), (1, .inl ((.ofNat 0, .ofNat 4), some (1, .ofNat 0))), (2, .inl ((.negSucc 2147483647, .ofNat 2147483647), some (2, .ofNat 0)))], [], zyh330, 0, 0), [], 0), (zyx129r, zyh330), 58, 7020)
set_option maxRecDepth 100000 in
theorem zyx129c : zchkX [(94, 15)] zprog2 (zovW [zyx128d, zyx122d]) 100000 kX8_sum [zyx123q, zyx117q, zyx111q, zyx105q, zyx99q, zyx93q, zyx87q, zyx81q, zyx75q, zyx69q, zyx63q, zyx57q, zyx51q] [zyx129q] [zyx129q] = true := by decide +kernel
theorem zyx129k {l : Launch} {D : va_G} {tys : List (ClassId × FieldType)} {o : zO} {z : Nat} (E : zEnv tys) : zPtOk l D vwCl tys o z (zXX o z) zTs mX8_sum zyx129q := zkn_pt E (fun g => List.forall_mem_cons.mpr ⟨zyx128 (o := zwith o g) E, List.forall_mem_cons.mpr ⟨zyx122 (o := zwith o g) E, fun _ h => absurd h List.not_mem_nil⟩⟩) (show zget zprog2 284 = some mX8_sum from rfl) (List.forall_mem_cons.mpr ⟨zyx123k E, List.forall_mem_cons.mpr ⟨zyx117k E, List.forall_mem_cons.mpr ⟨zyx111k E, List.forall_mem_cons.mpr ⟨zyx105k E, List.forall_mem_cons.mpr ⟨zyx99k E, List.forall_mem_cons.mpr ⟨zyx93k E, List.forall_mem_cons.mpr ⟨zyx87k E, List.forall_mem_cons.mpr ⟨zyx81k E, List.forall_mem_cons.mpr ⟨zyx75k E, List.forall_mem_cons.mpr ⟨zyx69k E, List.forall_mem_cons.mpr ⟨zyx63k E, List.forall_mem_cons.mpr ⟨zyx57k E, List.forall_mem_cons.mpr ⟨zyx51k E, fun _ h => absurd h List.not_mem_nil⟩⟩⟩⟩⟩⟩⟩⟩⟩⟩⟩⟩⟩) zyx129c _ List.mem_cons_self
noncomputable def zyx129d : zKw := (284, 5, 58, 7020, zyx129a, zyh251, [(zyx129r, zyh330)])
set_option maxRecDepth 100000 in
theorem zyx129e : zrunw zprog2 (zovW [zyx128d, zyx122d]) 100000 (zcutW [(94, 15)] none ((zyx129r, zyh330), 58, 7020) [zyx129q, zyx123q, zyx117q, zyx111q, zyx105q, zyx99q, zyx93q, zyx87q, zyx81q, zyx75q, zyx69q, zyx63q, zyx57q, zyx51q]) 58 7020 kX8_sum (zkin zyx129r zyh330) 0 (zargs 0 zyx129a, [], (zyh251.1, zyh251.2.1, 0), 0, 0) = true := by decide +kernel
theorem zyx129 {l : Launch} {D : va_G} {tys : List (ClassId × FieldType)} {o : zO} {z : Nat} (E : zEnv tys) : zKnW l D vwCl tys o z (zXX o z) zTs zprog2 zyx129d :=
  zkn_mk E (fun g => List.forall_mem_cons.mpr ⟨zyx128 (o := zwith o g) E, List.forall_mem_cons.mpr ⟨zyx122 (o := zwith o g) E, fun _ h => absurd h List.not_mem_nil⟩⟩) (show zget zprog2 284 = some mX8_sum from rfl) rfl (by decide) (by decide) (by decide) (by decide) (G := [zyx129q, zyx123q, zyx117q, zyx111q, zyx105q, zyx99q, zyx93q, zyx87q, zyx81q, zyx75q, zyx69q, zyx63q, zyx57q, zyx51q]) (List.forall_mem_cons.mpr ⟨zyx129k E, List.forall_mem_cons.mpr ⟨zyx123k E, List.forall_mem_cons.mpr ⟨zyx117k E, List.forall_mem_cons.mpr ⟨zyx111k E, List.forall_mem_cons.mpr ⟨zyx105k E, List.forall_mem_cons.mpr ⟨zyx99k E, List.forall_mem_cons.mpr ⟨zyx93k E, List.forall_mem_cons.mpr ⟨zyx87k E, List.forall_mem_cons.mpr ⟨zyx81k E, List.forall_mem_cons.mpr ⟨zyx75k E, List.forall_mem_cons.mpr ⟨zyx69k E, List.forall_mem_cons.mpr ⟨zyx63k E, List.forall_mem_cons.mpr ⟨zyx57k E, List.forall_mem_cons.mpr ⟨zyx51k E, fun _ h => absurd h List.not_mem_nil⟩⟩⟩⟩⟩⟩⟩⟩⟩⟩⟩⟩⟩⟩) zyx129e
/-! X8_heldBy -/
noncomputable def zyx130a : List zAV := [.inr (.inr (.inl 94)), .inl ((.ofNat 1, .ofNat 4), none)]
def zyx130r : Option zAV := some (.inl ((.negSucc 2147483647, .ofNat 2147483647), none))
noncomputable def zyx130p : List zPw := []
noncomputable def zyx130d : zKw := (229, 3, 59, 7140, zyx130a, zyh251, [(zyx130r, zyh330)])
set_option maxRecDepth 100000 in
theorem zyx130e : zrunw zprog2 (zovW [zyx129d, zyx123d, zyx35d]) 100000 (zcutW [] none ((zyx130r, zyh330), 59, 7140) zyx130p) 59 7140 kX8_heldBy (zkin zyx130r zyh330) 0 (zargs 0 zyx130a, [], (zyh251.1, zyh251.2.1, 0), 0, 0) = true := by decide +kernel
theorem zyx130 {l : Launch} {D : va_G} {tys : List (ClassId × FieldType)} {o : zO} {z : Nat} (E : zEnv tys) : zKnW l D vwCl tys o z (zXX o z) zTs zprog2 zyx130d :=
  zkn_mk E (fun g => List.forall_mem_cons.mpr ⟨zyx129 (o := zwith o g) E, List.forall_mem_cons.mpr ⟨zyx123 (o := zwith o g) E, List.forall_mem_cons.mpr ⟨zyx35 (o := zwith o g) E, fun _ h => absurd h List.not_mem_nil⟩⟩⟩) (show zget zprog2 229 = some mX8_heldBy from rfl) rfl (by decide) (by decide) (by decide) (by decide) (G := zyx130p) (fun _ h => absurd h List.not_mem_nil) zyx130e
/-! X8_oneOf -/
noncomputable def zyx131a : List zAV := [zyv320, zyv362, zyv363]
noncomputable def zyx131q : List (Option zAV × zH) := [(some (.inl ((.ofNat 0, .ofNat 0), none)), zyh331), (some (.inl ((.negSucc 175, .ofNat 79), none)), zyh332)]
noncomputable def zyx131d : zKw := (260, 3, 4, 480, zyx131a, zyh248, zyx131q)
set_option maxRecDepth 100000 in
theorem zyx131e : zrunw zprog2 (zovW []) 100000 zcut0 4 480 kX8_oneOf (zkinL zyx131q) 0 (zargs 0 zyx131a, [], (zyh248.1, zyh248.2.1, 0), 0, 0) = true := by decide +kernel
theorem zyx131 {l : Launch} {D : va_G} {tys : List (ClassId × FieldType)} {o : zO} {z : Nat} (E : zEnv tys) : zKnW l D vwCl tys o z (zXX o z) zTs zprog2 zyx131d :=
  zkn_ml E (fun g => fun _ h => absurd h List.not_mem_nil) (show zget zprog2 260 = some mX8_oneOf from rfl) rfl (by decide) (by decide) (by decide) (by decide) zyx131e
/-! X8_number -/
noncomputable def zyx132a : List zAV := [.inr (.inr (.inl 94)), .inl ((.ofNat 3, .ofNat 3), none)]
def zyx132r : Option zAV := some (.inl ((.negSucc 2147483647, .ofNat 2147483647), none))
noncomputable def zyx132p : List zPw := [((11, ([(0, .inr (.inr (.inl 94))), (1, .inl ((.ofNat 3, .ofNat 3), some (1, .ofNat 0))), (2, .inl ((.negSucc 2147483647, .ofNat 2147483647), some (2, .ofNat 0))), (3, .inl ((.ofNat 1, .ofNat 3), some (3, .ofNat 0)))], [], zyh333, 0, 0), [(3, .negSucc 1)], .ofNat 7), (zyx132r, zyh333), 5, 600)]
noncomputable def zyx132d : zKw := (259, 4, 5, 600, zyx132a, zyh248, [(zyx132r, zyh333)])
set_option maxRecDepth 100000 in
theorem zyx132c : zchkX [] zprog2 (zovW [zyx131d]) 100000 kX8_number [] zyx132p zyx132p = true := by decide +kernel
set_option maxRecDepth 100000 in
theorem zyx132e : zrunw zprog2 (zovW [zyx131d]) 100000 (zcutW [] none ((zyx132r, zyh333), 5, 600) zyx132p) 5 600 kX8_number (zkin zyx132r zyh333) 0 (zargs 0 zyx132a, [], (zyh248.1, zyh248.2.1, 0), 0, 0) = true := by decide +kernel
theorem zyx132 {l : Launch} {D : va_G} {tys : List (ClassId × FieldType)} {o : zO} {z : Nat} (E : zEnv tys) : zKnW l D vwCl tys o z (zXX o z) zTs zprog2 zyx132d :=
  zkn_mk E (fun g => List.forall_mem_cons.mpr ⟨zyx131 (o := zwith o g) E, fun _ h => absurd h List.not_mem_nil⟩) (show zget zprog2 259 = some mX8_number from rfl) rfl (by decide) (by decide) (by decide) (by decide) (G := zyx132p) (zkn_pt E (fun g => List.forall_mem_cons.mpr ⟨zyx131 (o := zwith o g) E, fun _ h => absurd h List.not_mem_nil⟩) (show zget zprog2 259 = some mX8_number from rfl) (fun _ h => absurd h List.not_mem_nil) zyx132c) zyx132e
/-! X8_thing -/
noncomputable def zyx133a : List zAV := [.inr (.inr (.inl 94)), .inl ((.ofNat 0, .ofNat 4), none)]
def zyx133r : Option zAV := some (.inl ((.negSucc 2147483647, .ofNat 2147483647), none))
noncomputable def zyx133p : List zPw := []
noncomputable def zyx133d : zKw := (292, 4, 60, 7260, zyx133a, zyh248, [(zyx133r, zyh333)])
set_option maxRecDepth 100000 in
theorem zyx133e : zrunw zprog2 (zovW [zyx132d, zyx130d, zyx127d, zyx34d, zyx35d]) 100000 (zcutW [] none ((zyx133r, zyh333), 60, 7260) zyx133p) 60 7260 k2X8_thing (zkin zyx133r zyh333) 0 (zargs 0 zyx133a, [], (zyh248.1, zyh248.2.1, 0), 0, 0) = true := by decide +kernel
theorem zyx133 {l : Launch} {D : va_G} {tys : List (ClassId × FieldType)} {o : zO} {z : Nat} (E : zEnv tys) : zKnW l D vwCl tys o z (zXX o z) zTs zprog2 zyx133d :=
  zkn_mk E (fun g => List.forall_mem_cons.mpr ⟨zyx132 (o := zwith o g) E, List.forall_mem_cons.mpr ⟨zyx130 (o := zwith o g) E, List.forall_mem_cons.mpr ⟨zyx127 (o := zwith o g) E, List.forall_mem_cons.mpr ⟨zyx34 (o := zwith o g) E, List.forall_mem_cons.mpr ⟨zyx35 (o := zwith o g) E, fun _ h => absurd h List.not_mem_nil⟩⟩⟩⟩⟩) (show zget zprog2 292 = some m2X8_thing from rfl) rfl (by decide) (by decide) (by decide) (by decide) (G := zyx133p) (fun _ h => absurd h List.not_mem_nil) zyx133e
/-! X8_product ((('r', 99), 40, 26),) -/
noncomputable def zyx134a : List zAV := [.inr (.inr (.inl 94)), .inl ((.ofNat 0, .ofNat 4), none)]
def zyx134r : Option zAV := some (.inl ((.negSucc 2147483647, .ofNat 2147483647), none))
noncomputable def zyx134q : zPw := ((6, ([(0, .inr (.inr (.inl 94))), (1, .inl ((.ofNat 0, .ofNat 4), some (1, .ofNat 0))), (2, .inl ((.negSucc 2147483647, .ofNat 2147483647), some (2, .ofNat 0)))], [], zyh333, 0, 0), [], 0), (zyx134r, zyh333), 61, 7380)
set_option maxRecDepth 100000 in
theorem zyx134c : zchkX [(94, 15)] zprog2 (zovW [zyx133d, zyx127d]) 100000 k2X8_product [zyx128q, zyx122q, zyx116q, zyx110q, zyx104q, zyx98q, zyx92q, zyx86q, zyx80q, zyx74q, zyx68q, zyx62q, zyx56q, zyx50q] [zyx134q] [zyx134q] = true := by decide +kernel
theorem zyx134k {l : Launch} {D : va_G} {tys : List (ClassId × FieldType)} {o : zO} {z : Nat} (E : zEnv tys) : zPtOk l D vwCl tys o z (zXX o z) zTs m2X8_product zyx134q := zkn_pt E (fun g => List.forall_mem_cons.mpr ⟨zyx133 (o := zwith o g) E, List.forall_mem_cons.mpr ⟨zyx127 (o := zwith o g) E, fun _ h => absurd h List.not_mem_nil⟩⟩) (show zget zprog2 265 = some m2X8_product from rfl) (List.forall_mem_cons.mpr ⟨zyx128k E, List.forall_mem_cons.mpr ⟨zyx122k E, List.forall_mem_cons.mpr ⟨zyx116k E, List.forall_mem_cons.mpr ⟨zyx110k E, List.forall_mem_cons.mpr ⟨zyx104k E, List.forall_mem_cons.mpr ⟨zyx98k E, List.forall_mem_cons.mpr ⟨zyx92k E, List.forall_mem_cons.mpr ⟨zyx86k E, List.forall_mem_cons.mpr ⟨zyx80k E, List.forall_mem_cons.mpr ⟨zyx74k E, List.forall_mem_cons.mpr ⟨zyx68k E, List.forall_mem_cons.mpr ⟨zyx62k E, List.forall_mem_cons.mpr ⟨zyx56k E, List.forall_mem_cons.mpr ⟨zyx50k E, fun _ h => absurd h List.not_mem_nil⟩⟩⟩⟩⟩⟩⟩⟩⟩⟩⟩⟩⟩⟩) zyx134c _ List.mem_cons_self
noncomputable def zyx134d : zKw := (265, 5, 61, 7380, zyx134a, zyh248, [(zyx134r, zyh333)])
set_option maxRecDepth 100000 in
theorem zyx134e : zrunw zprog2 (zovW [zyx133d, zyx127d]) 100000 (zcutW [(94, 15)] none ((zyx134r, zyh333), 61, 7380) [zyx134q, zyx128q, zyx122q, zyx116q, zyx110q, zyx104q, zyx98q, zyx92q, zyx86q, zyx80q, zyx74q, zyx68q, zyx62q, zyx56q, zyx50q]) 61 7380 k2X8_product (zkin zyx134r zyh333) 0 (zargs 0 zyx134a, [], (zyh248.1, zyh248.2.1, 0), 0, 0) = true := by decide +kernel
theorem zyx134 {l : Launch} {D : va_G} {tys : List (ClassId × FieldType)} {o : zO} {z : Nat} (E : zEnv tys) : zKnW l D vwCl tys o z (zXX o z) zTs zprog2 zyx134d :=
  zkn_mk E (fun g => List.forall_mem_cons.mpr ⟨zyx133 (o := zwith o g) E, List.forall_mem_cons.mpr ⟨zyx127 (o := zwith o g) E, fun _ h => absurd h List.not_mem_nil⟩⟩) (show zget zprog2 265 = some m2X8_product from rfl) rfl (by decide) (by decide) (by decide) (by decide) (G := [zyx134q, zyx128q, zyx122q, zyx116q, zyx110q, zyx104q, zyx98q, zyx92q, zyx86q, zyx80q, zyx74q, zyx68q, zyx62q, zyx56q, zyx50q]) (List.forall_mem_cons.mpr ⟨zyx134k E, List.forall_mem_cons.mpr ⟨zyx128k E, List.forall_mem_cons.mpr ⟨zyx122k E, List.forall_mem_cons.mpr ⟨zyx116k E, List.forall_mem_cons.mpr ⟨zyx110k E, List.forall_mem_cons.mpr ⟨zyx104k E, List.forall_mem_cons.mpr ⟨zyx98k E, List.forall_mem_cons.mpr ⟨zyx92k E, List.forall_mem_cons.mpr ⟨zyx86k E, List.forall_mem_cons.mpr ⟨zyx80k E, List.forall_mem_cons.mpr ⟨zyx74k E, List.forall_mem_cons.mpr ⟨zyx68k E, List.forall_mem_cons.mpr ⟨zyx62k E, List.forall_mem_cons.mpr ⟨zyx56k E, List.forall_mem_cons.mpr ⟨zyx50k E, fun _ h => absurd h List.not_mem_nil⟩⟩⟩⟩⟩⟩⟩⟩⟩⟩⟩⟩⟩⟩⟩) zyx134e
/-! X8_sum ((('r', 99), 40, 26),) -/
noncomputable def zyx135a : List zAV := [.inr (.inr (.inl 94)), .inl ((.ofNat 1, .ofNat 4), none)]
def zyx135r : Option zAV := some (.inl ((.negSucc 2147483647, .ofNat 2147483647), none))
noncomputable def zyx135q : zPw := ((6, ([(0, .inr (.inr (.inl 94))), (1, .inl ((.ofNat 0, .ofNat 4), some (1, .ofNat 0))), (2, .inl ((.negSucc 2147483647, .ofNat 2147483647), some (2, .ofNat 0)))], [], zyh333, 0, 0), [], 0), (zyx135r, zyh333), 62, 7500)
set_option maxRecDepth 100000 in
theorem zyx135c : zchkX [(94, 15)] zprog2 (zovW [zyx134d, zyx128d]) 100000 kX8_sum [zyx129q, zyx123q, zyx117q, zyx111q, zyx105q, zyx99q, zyx93q, zyx87q, zyx81q, zyx75q, zyx69q, zyx63q, zyx57q, zyx51q] [zyx135q] [zyx135q] = true := by decide +kernel
theorem zyx135k {l : Launch} {D : va_G} {tys : List (ClassId × FieldType)} {o : zO} {z : Nat} (E : zEnv tys) : zPtOk l D vwCl tys o z (zXX o z) zTs mX8_sum zyx135q := zkn_pt E (fun g => List.forall_mem_cons.mpr ⟨zyx134 (o := zwith o g) E, List.forall_mem_cons.mpr ⟨zyx128 (o := zwith o g) E, fun _ h => absurd h List.not_mem_nil⟩⟩) (show zget zprog2 284 = some mX8_sum from rfl) (List.forall_mem_cons.mpr ⟨zyx129k E, List.forall_mem_cons.mpr ⟨zyx123k E, List.forall_mem_cons.mpr ⟨zyx117k E, List.forall_mem_cons.mpr ⟨zyx111k E, List.forall_mem_cons.mpr ⟨zyx105k E, List.forall_mem_cons.mpr ⟨zyx99k E, List.forall_mem_cons.mpr ⟨zyx93k E, List.forall_mem_cons.mpr ⟨zyx87k E, List.forall_mem_cons.mpr ⟨zyx81k E, List.forall_mem_cons.mpr ⟨zyx75k E, List.forall_mem_cons.mpr ⟨zyx69k E, List.forall_mem_cons.mpr ⟨zyx63k E, List.forall_mem_cons.mpr ⟨zyx57k E, List.forall_mem_cons.mpr ⟨zyx51k E, fun _ h => absurd h List.not_mem_nil⟩⟩⟩⟩⟩⟩⟩⟩⟩⟩⟩⟩⟩⟩) zyx135c _ List.mem_cons_self
noncomputable def zyx135d : zKw := (284, 5, 62, 7500, zyx135a, zyh248, [(zyx135r, zyh333)])
set_option maxRecDepth 100000 in
theorem zyx135e : zrunw zprog2 (zovW [zyx134d, zyx128d]) 100000 (zcutW [(94, 15)] none ((zyx135r, zyh333), 62, 7500) [zyx135q, zyx129q, zyx123q, zyx117q, zyx111q, zyx105q, zyx99q, zyx93q, zyx87q, zyx81q, zyx75q, zyx69q, zyx63q, zyx57q, zyx51q]) 62 7500 kX8_sum (zkin zyx135r zyh333) 0 (zargs 0 zyx135a, [], (zyh248.1, zyh248.2.1, 0), 0, 0) = true := by decide +kernel
theorem zyx135 {l : Launch} {D : va_G} {tys : List (ClassId × FieldType)} {o : zO} {z : Nat} (E : zEnv tys) : zKnW l D vwCl tys o z (zXX o z) zTs zprog2 zyx135d :=
  zkn_mk E (fun g => List.forall_mem_cons.mpr ⟨zyx134 (o := zwith o g) E, List.forall_mem_cons.mpr ⟨zyx128 (o := zwith o g) E, fun _ h => absurd h List.not_mem_nil⟩⟩) (show zget zprog2 284 = some mX8_sum from rfl) rfl (by decide) (by decide) (by decide) (by decide) (G := [zyx135q, zyx129q, zyx123q, zyx117q, zyx111q, zyx105q, zyx99q, zyx93q, zyx87q, zyx81q, zyx75q, zyx69q, zyx63q, zyx57q, zyx51q]) (List.forall_mem_cons.mpr ⟨zyx135k E, List.forall_mem_cons.mpr ⟨zyx129k E, List.forall_mem_cons.mpr ⟨zyx123k E, List.forall_mem_cons.mpr ⟨zyx117k E, List.forall_mem_cons.mpr ⟨zyx111k E, List.forall_mem_cons.mpr ⟨zyx105k E, List.forall_mem_cons.mpr ⟨zyx99k E, List.forall_mem_cons.mpr ⟨zyx93k E, List.forall_mem_cons.mpr ⟨zyx87k E, List.forall_mem_cons.mpr ⟨zyx81k E, List.forall_mem_cons.mpr ⟨zyx75k E, List.forall_mem_cons.mpr ⟨zyx69k E, List.forall_mem_cons.mpr ⟨zyx63k E, List.forall_mem_cons.mpr ⟨zyx57k E, List.forall_mem_cons.mpr ⟨zyx51k E, fun _ h => absurd h List.not_mem_nil⟩⟩⟩⟩⟩⟩⟩⟩⟩⟩⟩⟩⟩⟩⟩) zyx135e
/-! X8_heldBy -/
noncomputable def zyx136a : List zAV := [.inr (.inr (.inl 94)), .inl ((.ofNat 1, .ofNat 4), none)]
def zyx136r : Option zAV := some (.inl ((.negSucc 2147483647, .ofNat 2147483647), none))
noncomputable def zyx136p : List zPw := []
noncomputable def zyx136d : zKw := (229, 3, 63, 7620, zyx136a, zyh248, [(zyx136r, zyh333)])
set_option maxRecDepth 100000 in
theorem zyx136e : zrunw zprog2 (zovW [zyx135d, zyx129d, zyx34d]) 100000 (zcutW [] none ((zyx136r, zyh333), 63, 7620) zyx136p) 63 7620 kX8_heldBy (zkin zyx136r zyh333) 0 (zargs 0 zyx136a, [], (zyh248.1, zyh248.2.1, 0), 0, 0) = true := by decide +kernel
theorem zyx136 {l : Launch} {D : va_G} {tys : List (ClassId × FieldType)} {o : zO} {z : Nat} (E : zEnv tys) : zKnW l D vwCl tys o z (zXX o z) zTs zprog2 zyx136d :=
  zkn_mk E (fun g => List.forall_mem_cons.mpr ⟨zyx135 (o := zwith o g) E, List.forall_mem_cons.mpr ⟨zyx129 (o := zwith o g) E, List.forall_mem_cons.mpr ⟨zyx34 (o := zwith o g) E, fun _ h => absurd h List.not_mem_nil⟩⟩⟩) (show zget zprog2 229 = some mX8_heldBy from rfl) rfl (by decide) (by decide) (by decide) (by decide) (G := zyx136p) (fun _ h => absurd h List.not_mem_nil) zyx136e
/-! X8_oneOf -/
noncomputable def zyx137a : List zAV := [zyv320, zyv362, zyv363]
noncomputable def zyx137q : List (Option zAV × zH) := [(some (.inl ((.ofNat 0, .ofNat 0), none)), zyh334), (some (.inl ((.negSucc 175, .ofNat 79), none)), zyh335)]
noncomputable def zyx137d : zKw := (260, 3, 4, 480, zyx137a, zyh245, zyx137q)
set_option maxRecDepth 100000 in
theorem zyx137e : zrunw zprog2 (zovW []) 100000 zcut0 4 480 kX8_oneOf (zkinL zyx137q) 0 (zargs 0 zyx137a, [], (zyh245.1, zyh245.2.1, 0), 0, 0) = true := by decide +kernel
theorem zyx137 {l : Launch} {D : va_G} {tys : List (ClassId × FieldType)} {o : zO} {z : Nat} (E : zEnv tys) : zKnW l D vwCl tys o z (zXX o z) zTs zprog2 zyx137d :=
  zkn_ml E (fun g => fun _ h => absurd h List.not_mem_nil) (show zget zprog2 260 = some mX8_oneOf from rfl) rfl (by decide) (by decide) (by decide) (by decide) zyx137e
/-! X8_number -/
noncomputable def zyx138a : List zAV := [.inr (.inr (.inl 94)), .inl ((.ofNat 3, .ofNat 3), none)]
def zyx138r : Option zAV := some (.inl ((.negSucc 2147483647, .ofNat 2147483647), none))
noncomputable def zyx138p : List zPw := [((11, ([(0, .inr (.inr (.inl 94))), (1, .inl ((.ofNat 3, .ofNat 3), some (1, .ofNat 0))), (2, .inl ((.negSucc 2147483647, .ofNat 2147483647), some (2, .ofNat 0))), (3, .inl ((.ofNat 1, .ofNat 3), some (3, .ofNat 0)))], [], zyh336, 0, 0), [(3, .negSucc 1)], .ofNat 7), (zyx138r, zyh336), 5, 600)]
noncomputable def zyx138d : zKw := (259, 4, 5, 600, zyx138a, zyh245, [(zyx138r, zyh336)])
set_option maxRecDepth 100000 in
theorem zyx138c : zchkX [] zprog2 (zovW [zyx137d]) 100000 kX8_number [] zyx138p zyx138p = true := by decide +kernel
set_option maxRecDepth 100000 in
theorem zyx138e : zrunw zprog2 (zovW [zyx137d]) 100000 (zcutW [] none ((zyx138r, zyh336), 5, 600) zyx138p) 5 600 kX8_number (zkin zyx138r zyh336) 0 (zargs 0 zyx138a, [], (zyh245.1, zyh245.2.1, 0), 0, 0) = true := by decide +kernel
theorem zyx138 {l : Launch} {D : va_G} {tys : List (ClassId × FieldType)} {o : zO} {z : Nat} (E : zEnv tys) : zKnW l D vwCl tys o z (zXX o z) zTs zprog2 zyx138d :=
  zkn_mk E (fun g => List.forall_mem_cons.mpr ⟨zyx137 (o := zwith o g) E, fun _ h => absurd h List.not_mem_nil⟩) (show zget zprog2 259 = some mX8_number from rfl) rfl (by decide) (by decide) (by decide) (by decide) (G := zyx138p) (zkn_pt E (fun g => List.forall_mem_cons.mpr ⟨zyx137 (o := zwith o g) E, fun _ h => absurd h List.not_mem_nil⟩) (show zget zprog2 259 = some mX8_number from rfl) (fun _ h => absurd h List.not_mem_nil) zyx138c) zyx138e
/-! X8_thing -/
noncomputable def zyx139a : List zAV := [.inr (.inr (.inl 94)), .inl ((.ofNat 0, .ofNat 4), none)]
def zyx139r : Option zAV := some (.inl ((.negSucc 2147483647, .ofNat 2147483647), none))
noncomputable def zyx139p : List zPw := []
noncomputable def zyx139d : zKw := (292, 4, 64, 7740, zyx139a, zyh245, [(zyx139r, zyh336)])
set_option maxRecDepth 100000 in
theorem zyx139e : zrunw zprog2 (zovW [zyx138d, zyx136d, zyx133d, zyx33d, zyx34d]) 100000 (zcutW [] none ((zyx139r, zyh336), 64, 7740) zyx139p) 64 7740 k2X8_thing (zkin zyx139r zyh336) 0 (zargs 0 zyx139a, [], (zyh245.1, zyh245.2.1, 0), 0, 0) = true := by decide +kernel
theorem zyx139 {l : Launch} {D : va_G} {tys : List (ClassId × FieldType)} {o : zO} {z : Nat} (E : zEnv tys) : zKnW l D vwCl tys o z (zXX o z) zTs zprog2 zyx139d :=
  zkn_mk E (fun g => List.forall_mem_cons.mpr ⟨zyx138 (o := zwith o g) E, List.forall_mem_cons.mpr ⟨zyx136 (o := zwith o g) E, List.forall_mem_cons.mpr ⟨zyx133 (o := zwith o g) E, List.forall_mem_cons.mpr ⟨zyx33 (o := zwith o g) E, List.forall_mem_cons.mpr ⟨zyx34 (o := zwith o g) E, fun _ h => absurd h List.not_mem_nil⟩⟩⟩⟩⟩) (show zget zprog2 292 = some m2X8_thing from rfl) rfl (by decide) (by decide) (by decide) (by decide) (G := zyx139p) (fun _ h => absurd h List.not_mem_nil) zyx139e
/-! X8_product ((('r', 99), 40, 25),) -/
noncomputable def zyx140a : List zAV := [.inr (.inr (.inl 94)), .inl ((.ofNat 0, .ofNat 4), none)]
def zyx140r : Option zAV := some (.inl ((.negSucc 2147483647, .ofNat 2147483647), none))
noncomputable def zyx140q : zPw := ((6, ([(0, .inr (.inr (.inl 94))), (1, .inl ((.ofNat 0, .ofNat 4), some (1, .ofNat 0))), (2, .inl ((.negSucc 2147483647, .ofNat 2147483647), some (2, .ofNat 0)))], [], zyh336, 0, 0), [], 0), (zyx140r, zyh336), 65, 7860)
set_option maxRecDepth 100000 in
theorem zyx140c : zchkX [(94, 15)] zprog2 (zovW [zyx139d, zyx133d]) 100000 k2X8_product [zyx134q, zyx128q, zyx122q, zyx116q, zyx110q, zyx104q, zyx98q, zyx92q, zyx86q, zyx80q, zyx74q, zyx68q, zyx62q, zyx56q, zyx50q] [zyx140q] [zyx140q] = true := by decide +kernel
theorem zyx140k {l : Launch} {D : va_G} {tys : List (ClassId × FieldType)} {o : zO} {z : Nat} (E : zEnv tys) : zPtOk l D vwCl tys o z (zXX o z) zTs m2X8_product zyx140q := zkn_pt E (fun g => List.forall_mem_cons.mpr ⟨zyx139 (o := zwith o g) E, List.forall_mem_cons.mpr ⟨zyx133 (o := zwith o g) E, fun _ h => absurd h List.not_mem_nil⟩⟩) (show zget zprog2 265 = some m2X8_product from rfl) (List.forall_mem_cons.mpr ⟨zyx134k E, List.forall_mem_cons.mpr ⟨zyx128k E, List.forall_mem_cons.mpr ⟨zyx122k E, List.forall_mem_cons.mpr ⟨zyx116k E, List.forall_mem_cons.mpr ⟨zyx110k E, List.forall_mem_cons.mpr ⟨zyx104k E, List.forall_mem_cons.mpr ⟨zyx98k E, List.forall_mem_cons.mpr ⟨zyx92k E, List.forall_mem_cons.mpr ⟨zyx86k E, List.forall_mem_cons.mpr ⟨zyx80k E, List.forall_mem_cons.mpr ⟨zyx74k E, List.forall_mem_cons.mpr ⟨zyx68k E, List.forall_mem_cons.mpr ⟨zyx62k E, List.forall_mem_cons.mpr ⟨zyx56k E, List.forall_mem_cons.mpr ⟨zyx50k E, fun _ h => absurd h List.not_mem_nil⟩⟩⟩⟩⟩⟩⟩⟩⟩⟩⟩⟩⟩⟩⟩) zyx140c _ List.mem_cons_self
noncomputable def zyx140d : zKw := (265, 5, 65, 7860, zyx140a, zyh245, [(zyx140r, zyh336)])
set_option maxRecDepth 100000 in
theorem zyx140e : zrunw zprog2 (zovW [zyx139d, zyx133d]) 100000 (zcutW [(94, 15)] none ((zyx140r, zyh336), 65, 7860) [zyx140q, zyx134q, zyx128q, zyx122q, zyx116q, zyx110q, zyx104q, zyx98q, zyx92q, zyx86q, zyx80q, zyx74q, zyx68q, zyx62q, zyx56q, zyx50q]) 65 7860 k2X8_product (zkin zyx140r zyh336) 0 (zargs 0 zyx140a, [], (zyh245.1, zyh245.2.1, 0), 0, 0) = true := by decide +kernel
theorem zyx140 {l : Launch} {D : va_G} {tys : List (ClassId × FieldType)} {o : zO} {z : Nat} (E : zEnv tys) : zKnW l D vwCl tys o z (zXX o z) zTs zprog2 zyx140d :=
  zkn_mk E (fun g => List.forall_mem_cons.mpr ⟨zyx139 (o := zwith o g) E, List.forall_mem_cons.mpr ⟨zyx133 (o := zwith o g) E, fun _ h => absurd h List.not_mem_nil⟩⟩) (show zget zprog2 265 = some m2X8_product from rfl) rfl (by decide) (by decide) (by decide) (by decide) (G := [zyx140q, zyx134q, zyx128q, zyx122q, zyx116q, zyx110q, zyx104q, zyx98q, zyx92q, zyx86q, zyx80q, zyx74q, zyx68q, zyx62q, zyx56q, zyx50q]) (List.forall_mem_cons.mpr ⟨zyx140k E, List.forall_mem_cons.mpr ⟨zyx134k E, List.forall_mem_cons.mpr ⟨zyx128k E, List.forall_mem_cons.mpr ⟨zyx122k E, List.forall_mem_cons.mpr ⟨zyx116k E, List.forall_mem_cons.mpr ⟨zyx110k E, List.forall_mem_cons.mpr ⟨zyx104k E, List.forall_mem_cons.mpr ⟨zyx98k E, List.forall_mem_cons.mpr ⟨zyx92k E, List.forall_mem_cons.mpr ⟨zyx86k E, List.forall_mem_cons.mpr ⟨zyx80k E, List.forall_mem_cons.mpr ⟨zyx74k E, List.forall_mem_cons.mpr ⟨zyx68k E, List.forall_mem_cons.mpr ⟨zyx62k E, List.forall_mem_cons.mpr ⟨zyx56k E, List.forall_mem_cons.mpr ⟨zyx50k E, fun _ h => absurd h List.not_mem_nil⟩⟩⟩⟩⟩⟩⟩⟩⟩⟩⟩⟩⟩⟩⟩⟩) zyx140e
/-! X8_sum ((('r', 99), 40, 25),) -/
noncomputable def zyx141a : List zAV := [.inr (.inr (.inl 94)), .inl ((.ofNat 1, .ofNat 4), none)]
def zyx141r : Option zAV := some (.inl ((.negSucc 2147483647, .ofNat 2147483647), none))
noncomputable def zyx141q : zPw := ((6, ([(0, .inr (.inr (.inl 94))), (1, .inl ((.ofNat 0, .ofNat 4), some (1, .ofNat 0))), (2, .inl ((.negSucc 2147483647, .ofNat 2147483647), some (2, .ofNat 0)))], [], zyh336, 0, 0), [], 0), (zyx141r, zyh336), 66, 7980)
set_option maxRecDepth 100000 in
theorem zyx141c : zchkX [(94, 15)] zprog2 (zovW [zyx140d, zyx134d]) 100000 kX8_sum [zyx135q, zyx129q, zyx123q, zyx117q, zyx111q, zyx105q, zyx99q, zyx93q, zyx87q, zyx81q, zyx75q, zyx69q, zyx63q, zyx57q, zyx51q] [zyx141q] [zyx141q] = true := by decide +kernel
theorem zyx141k {l : Launch} {D : va_G} {tys : List (ClassId × FieldType)} {o : zO} {z : Nat} (E : zEnv tys) : zPtOk l D vwCl tys o z (zXX o z) zTs mX8_sum zyx141q := zkn_pt E (fun g => List.forall_mem_cons.mpr ⟨zyx140 (o := zwith o g) E, List.forall_mem_cons.mpr ⟨zyx134 (o := zwith o g) E, fun _ h => absurd h List.not_mem_nil⟩⟩) (show zget zprog2 284 = some mX8_sum from rfl) (List.forall_mem_cons.mpr ⟨zyx135k E, List.forall_mem_cons.mpr ⟨zyx129k E, List.forall_mem_cons.mpr ⟨zyx123k E, List.forall_mem_cons.mpr ⟨zyx117k E, List.forall_mem_cons.mpr ⟨zyx111k E, List.forall_mem_cons.mpr ⟨zyx105k E, List.forall_mem_cons.mpr ⟨zyx99k E, List.forall_mem_cons.mpr ⟨zyx93k E, List.forall_mem_cons.mpr ⟨zyx87k E, List.forall_mem_cons.mpr ⟨zyx81k E, List.forall_mem_cons.mpr ⟨zyx75k E, List.forall_mem_cons.mpr ⟨zyx69k E, List.forall_mem_cons.mpr ⟨zyx63k E, List.forall_mem_cons.mpr ⟨zyx57k E, List.forall_mem_cons.mpr ⟨zyx51k E, fun _ h => absurd h List.not_mem_nil⟩⟩⟩⟩⟩⟩⟩⟩⟩⟩⟩⟩⟩⟩⟩) zyx141c _ List.mem_cons_self
noncomputable def zyx141d : zKw := (284, 5, 66, 7980, zyx141a, zyh245, [(zyx141r, zyh336)])
set_option maxRecDepth 100000 in
theorem zyx141e : zrunw zprog2 (zovW [zyx140d, zyx134d]) 100000 (zcutW [(94, 15)] none ((zyx141r, zyh336), 66, 7980) [zyx141q, zyx135q, zyx129q, zyx123q, zyx117q, zyx111q, zyx105q, zyx99q, zyx93q, zyx87q, zyx81q, zyx75q, zyx69q, zyx63q, zyx57q, zyx51q]) 66 7980 kX8_sum (zkin zyx141r zyh336) 0 (zargs 0 zyx141a, [], (zyh245.1, zyh245.2.1, 0), 0, 0) = true := by decide +kernel
theorem zyx141 {l : Launch} {D : va_G} {tys : List (ClassId × FieldType)} {o : zO} {z : Nat} (E : zEnv tys) : zKnW l D vwCl tys o z (zXX o z) zTs zprog2 zyx141d :=
  zkn_mk E (fun g => List.forall_mem_cons.mpr ⟨zyx140 (o := zwith o g) E, List.forall_mem_cons.mpr ⟨zyx134 (o := zwith o g) E, fun _ h => absurd h List.not_mem_nil⟩⟩) (show zget zprog2 284 = some mX8_sum from rfl) rfl (by decide) (by decide) (by decide) (by decide) (G := [zyx141q, zyx135q, zyx129q, zyx123q, zyx117q, zyx111q, zyx105q, zyx99q, zyx93q, zyx87q, zyx81q, zyx75q, zyx69q, zyx63q, zyx57q, zyx51q]) (List.forall_mem_cons.mpr ⟨zyx141k E, List.forall_mem_cons.mpr ⟨zyx135k E, List.forall_mem_cons.mpr ⟨zyx129k E, List.forall_mem_cons.mpr ⟨zyx123k E, List.forall_mem_cons.mpr ⟨zyx117k E, List.forall_mem_cons.mpr ⟨zyx111k E, List.forall_mem_cons.mpr ⟨zyx105k E, List.forall_mem_cons.mpr ⟨zyx99k E, List.forall_mem_cons.mpr ⟨zyx93k E, List.forall_mem_cons.mpr ⟨zyx87k E, List.forall_mem_cons.mpr ⟨zyx81k E, List.forall_mem_cons.mpr ⟨zyx75k E, List.forall_mem_cons.mpr ⟨zyx69k E, List.forall_mem_cons.mpr ⟨zyx63k E, List.forall_mem_cons.mpr ⟨zyx57k E, List.forall_mem_cons.mpr ⟨zyx51k E, fun _ h => absurd h List.not_mem_nil⟩⟩⟩⟩⟩⟩⟩⟩⟩⟩⟩⟩⟩⟩⟩⟩) zyx141e
/-! X8_heldBy -/
noncomputable def zyx142a : List zAV := [.inr (.inr (.inl 94)), .inl ((.ofNat 1, .ofNat 4), none)]
def zyx142r : Option zAV := some (.inl ((.negSucc 2147483647, .ofNat 2147483647), none))
noncomputable def zyx142p : List zPw := []
noncomputable def zyx142d : zKw := (229, 3, 67, 8100, zyx142a, zyh245, [(zyx142r, zyh336)])
set_option maxRecDepth 100000 in
theorem zyx142e : zrunw zprog2 (zovW [zyx141d, zyx135d, zyx33d]) 100000 (zcutW [] none ((zyx142r, zyh336), 67, 8100) zyx142p) 67 8100 kX8_heldBy (zkin zyx142r zyh336) 0 (zargs 0 zyx142a, [], (zyh245.1, zyh245.2.1, 0), 0, 0) = true := by decide +kernel
theorem zyx142 {l : Launch} {D : va_G} {tys : List (ClassId × FieldType)} {o : zO} {z : Nat} (E : zEnv tys) : zKnW l D vwCl tys o z (zXX o z) zTs zprog2 zyx142d :=
  zkn_mk E (fun g => List.forall_mem_cons.mpr ⟨zyx141 (o := zwith o g) E, List.forall_mem_cons.mpr ⟨zyx135 (o := zwith o g) E, List.forall_mem_cons.mpr ⟨zyx33 (o := zwith o g) E, fun _ h => absurd h List.not_mem_nil⟩⟩⟩) (show zget zprog2 229 = some mX8_heldBy from rfl) rfl (by decide) (by decide) (by decide) (by decide) (G := zyx142p) (fun _ h => absurd h List.not_mem_nil) zyx142e
/-! X8_oneOf -/
noncomputable def zyx143a : List zAV := [zyv320, zyv362, zyv363]
noncomputable def zyx143q : List (Option zAV × zH) := [(some (.inl ((.ofNat 0, .ofNat 0), none)), zyh337), (some (.inl ((.negSucc 175, .ofNat 79), none)), zyh338)]
noncomputable def zyx143d : zKw := (260, 3, 4, 480, zyx143a, zyh242, zyx143q)
set_option maxRecDepth 100000 in
theorem zyx143e : zrunw zprog2 (zovW []) 100000 zcut0 4 480 kX8_oneOf (zkinL zyx143q) 0 (zargs 0 zyx143a, [], (zyh242.1, zyh242.2.1, 0), 0, 0) = true := by decide +kernel
theorem zyx143 {l : Launch} {D : va_G} {tys : List (ClassId × FieldType)} {o : zO} {z : Nat} (E : zEnv tys) : zKnW l D vwCl tys o z (zXX o z) zTs zprog2 zyx143d :=
  zkn_ml E (fun g => fun _ h => absurd h List.not_mem_nil) (show zget zprog2 260 = some mX8_oneOf from rfl) rfl (by decide) (by decide) (by decide) (by decide) zyx143e
/-! X8_number -/
noncomputable def zyx144a : List zAV := [.inr (.inr (.inl 94)), .inl ((.ofNat 3, .ofNat 3), none)]
def zyx144r : Option zAV := some (.inl ((.negSucc 2147483647, .ofNat 2147483647), none))
noncomputable def zyx144p : List zPw := [((11, ([(0, .inr (.inr (.inl 94))), (1, .inl ((.ofNat 3, .ofNat 3), some (1, .ofNat 0))), (2, .inl ((.negSucc 2147483647, .ofNat 2147483647), some (2, .ofNat 0))), (3, .inl ((.ofNat 1, .ofNat 3), some (3, .ofNat 0)))], [], zyh339, 0, 0), [(3, .negSucc 1)], .ofNat 7), (zyx144r, zyh339), 5, 600)]
noncomputable def zyx144d : zKw := (259, 4, 5, 600, zyx144a, zyh242, [(zyx144r, zyh339)])
set_option maxRecDepth 100000 in
theorem zyx144c : zchkX [] zprog2 (zovW [zyx143d]) 100000 kX8_number [] zyx144p zyx144p = true := by decide +kernel
set_option maxRecDepth 100000 in
theorem zyx144e : zrunw zprog2 (zovW [zyx143d]) 100000 (zcutW [] none ((zyx144r, zyh339), 5, 600) zyx144p) 5 600 kX8_number (zkin zyx144r zyh339) 0 (zargs 0 zyx144a, [], (zyh242.1, zyh242.2.1, 0), 0, 0) = true := by decide +kernel
theorem zyx144 {l : Launch} {D : va_G} {tys : List (ClassId × FieldType)} {o : zO} {z : Nat} (E : zEnv tys) : zKnW l D vwCl tys o z (zXX o z) zTs zprog2 zyx144d :=
  zkn_mk E (fun g => List.forall_mem_cons.mpr ⟨zyx143 (o := zwith o g) E, fun _ h => absurd h List.not_mem_nil⟩) (show zget zprog2 259 = some mX8_number from rfl) rfl (by decide) (by decide) (by decide) (by decide) (G := zyx144p) (zkn_pt E (fun g => List.forall_mem_cons.mpr ⟨zyx143 (o := zwith o g) E, fun _ h => absurd h List.not_mem_nil⟩) (show zget zprog2 259 = some mX8_number from rfl) (fun _ h => absurd h List.not_mem_nil) zyx144c) zyx144e
/-! X8_thing -/
noncomputable def zyx145a : List zAV := [.inr (.inr (.inl 94)), .inl ((.ofNat 0, .ofNat 4), none)]
def zyx145r : Option zAV := some (.inl ((.negSucc 2147483647, .ofNat 2147483647), none))
noncomputable def zyx145p : List zPw := []
noncomputable def zyx145d : zKw := (292, 4, 68, 8220, zyx145a, zyh242, [(zyx145r, zyh339)])
set_option maxRecDepth 100000 in
theorem zyx145e : zrunw zprog2 (zovW [zyx144d, zyx142d, zyx139d, zyx32d, zyx33d]) 100000 (zcutW [] none ((zyx145r, zyh339), 68, 8220) zyx145p) 68 8220 k2X8_thing (zkin zyx145r zyh339) 0 (zargs 0 zyx145a, [], (zyh242.1, zyh242.2.1, 0), 0, 0) = true := by decide +kernel
theorem zyx145 {l : Launch} {D : va_G} {tys : List (ClassId × FieldType)} {o : zO} {z : Nat} (E : zEnv tys) : zKnW l D vwCl tys o z (zXX o z) zTs zprog2 zyx145d :=
  zkn_mk E (fun g => List.forall_mem_cons.mpr ⟨zyx144 (o := zwith o g) E, List.forall_mem_cons.mpr ⟨zyx142 (o := zwith o g) E, List.forall_mem_cons.mpr ⟨zyx139 (o := zwith o g) E, List.forall_mem_cons.mpr ⟨zyx32 (o := zwith o g) E, List.forall_mem_cons.mpr ⟨zyx33 (o := zwith o g) E, fun _ h => absurd h List.not_mem_nil⟩⟩⟩⟩⟩) (show zget zprog2 292 = some m2X8_thing from rfl) rfl (by decide) (by decide) (by decide) (by decide) (G := zyx145p) (fun _ h => absurd h List.not_mem_nil) zyx145e
/-! X8_product ((('r', 99), 40, 24),) -/
noncomputable def zyx146a : List zAV := [.inr (.inr (.inl 94)), .inl ((.ofNat 0, .ofNat 4), none)]
def zyx146r : Option zAV := some (.inl ((.negSucc 2147483647, .ofNat 2147483647), none))
noncomputable def zyx146q : zPw := ((6, ([(0, .inr (.inr (.inl 94))), (1, .inl ((.ofNat 0, .ofNat 4), some (1, .ofNat 0))), (2, .inl ((.negSucc 2147483647, .ofNat 2147483647), some (2, .ofNat 0)))], [], zyh339, 0, 0), [], 0), (zyx146r, zyh339), 69, 8340)
set_option maxRecDepth 100000 in
theorem zyx146c : zchkX [(94, 15)] zprog2 (zovW [zyx145d, zyx139d]) 100000 k2X8_product [zyx140q, zyx134q, zyx128q, zyx122q, zyx116q, zyx110q, zyx104q, zyx98q, zyx92q, zyx86q, zyx80q, zyx74q, zyx68q, zyx62q, zyx56q, zyx50q] [zyx146q] [zyx146q] = true := by decide +kernel
theorem zyx146k {l : Launch} {D : va_G} {tys : List (ClassId × FieldType)} {o : zO} {z : Nat} (E : zEnv tys) : zPtOk l D vwCl tys o z (zXX o z) zTs m2X8_product zyx146q := zkn_pt E (fun g => List.forall_mem_cons.mpr ⟨zyx145 (o := zwith o g) E, List.forall_mem_cons.mpr ⟨zyx139 (o := zwith o g) E, fun _ h => absurd h List.not_mem_nil⟩⟩) (show zget zprog2 265 = some m2X8_product from rfl) (List.forall_mem_cons.mpr ⟨zyx140k E, List.forall_mem_cons.mpr ⟨zyx134k E, List.forall_mem_cons.mpr ⟨zyx128k E, List.forall_mem_cons.mpr ⟨zyx122k E, List.forall_mem_cons.mpr ⟨zyx116k E, List.forall_mem_cons.mpr ⟨zyx110k E, List.forall_mem_cons.mpr ⟨zyx104k E, List.forall_mem_cons.mpr ⟨zyx98k E, List.forall_mem_cons.mpr ⟨zyx92k E, List.forall_mem_cons.mpr ⟨zyx86k E, List.forall_mem_cons.mpr ⟨zyx80k E, List.forall_mem_cons.mpr ⟨zyx74k E, List.forall_mem_cons.mpr ⟨zyx68k E, List.forall_mem_cons.mpr ⟨zyx62k E, List.forall_mem_cons.mpr ⟨zyx56k E, List.forall_mem_cons.mpr ⟨zyx50k E, fun _ h => absurd h List.not_mem_nil⟩⟩⟩⟩⟩⟩⟩⟩⟩⟩⟩⟩⟩⟩⟩⟩) zyx146c _ List.mem_cons_self
noncomputable def zyx146d : zKw := (265, 5, 69, 8340, zyx146a, zyh242, [(zyx146r, zyh339)])
set_option maxRecDepth 100000 in
theorem zyx146e : zrunw zprog2 (zovW [zyx145d, zyx139d]) 100000 (zcutW [(94, 15)] none ((zyx146r, zyh339), 69, 8340) [zyx146q, zyx140q, zyx134q, zyx128q, zyx122q, zyx116q, zyx110q, zyx104q, zyx98q, zyx92q, zyx86q, zyx80q, zyx74q, zyx68q, zyx62q, zyx56q, zyx50q]) 69 8340 k2X8_product (zkin zyx146r zyh339) 0 (zargs 0 zyx146a, [], (zyh242.1, zyh242.2.1, 0), 0, 0) = true := by decide +kernel
theorem zyx146 {l : Launch} {D : va_G} {tys : List (ClassId × FieldType)} {o : zO} {z : Nat} (E : zEnv tys) : zKnW l D vwCl tys o z (zXX o z) zTs zprog2 zyx146d :=
  zkn_mk E (fun g => List.forall_mem_cons.mpr ⟨zyx145 (o := zwith o g) E, List.forall_mem_cons.mpr ⟨zyx139 (o := zwith o g) E, fun _ h => absurd h List.not_mem_nil⟩⟩) (show zget zprog2 265 = some m2X8_product from rfl) rfl (by decide) (by decide) (by decide) (by decide) (G := [zyx146q, zyx140q, zyx134q, zyx128q, zyx122q, zyx116q, zyx110q, zyx104q, zyx98q, zyx92q, zyx86q, zyx80q, zyx74q, zyx68q, zyx62q, zyx56q, zyx50q]) (List.forall_mem_cons.mpr ⟨zyx146k E, List.forall_mem_cons.mpr ⟨zyx140k E, List.forall_mem_cons.mpr ⟨zyx134k E, List.forall_mem_cons.mpr ⟨zyx128k E, List.forall_mem_cons.mpr ⟨zyx122k E, List.forall_mem_cons.mpr ⟨zyx116k E, List.forall_mem_cons.mpr ⟨zyx110k E, List.forall_mem_cons.mpr ⟨zyx104k E, List.forall_mem_cons.mpr ⟨zyx98k E, List.forall_mem_cons.mpr ⟨zyx92k E, List.forall_mem_cons.mpr ⟨zyx86k E, List.forall_mem_cons.mpr ⟨zyx80k E, List.forall_mem_cons.mpr ⟨zyx74k E, List.forall_mem_cons.mpr ⟨zyx68k E, List.forall_mem_cons.mpr ⟨zyx62k E, List.forall_mem_cons.mpr ⟨zyx56k E, List.forall_mem_cons.mpr ⟨zyx50k E, fun _ h => absurd h List.not_mem_nil⟩⟩⟩⟩⟩⟩⟩⟩⟩⟩⟩⟩⟩⟩⟩⟩⟩) zyx146e
/-! X8_sum ((('r', 99), 40, 24),) -/
noncomputable def zyx147a : List zAV := [.inr (.inr (.inl 94)), .inl ((.ofNat 1, .ofNat 4), none)]
def zyx147r : Option zAV := some (.inl ((.negSucc 2147483647, .ofNat 2147483647), none))
noncomputable def zyx147q : zPw := ((6, ([(0, .inr (.inr (.inl 94))), (1, .inl ((.ofNat 0, .ofNat 4), some (1, .ofNat 0))), (2, .inl ((.negSucc 2147483647, .ofNat 2147483647), some (2, .ofNat 0)))], [], zyh339, 0, 0), [], 0), (zyx147r, zyh339), 70, 8460)
set_option maxRecDepth 100000 in
theorem zyx147c : zchkX [(94, 15)] zprog2 (zovW [zyx146d, zyx140d]) 100000 kX8_sum [zyx141q, zyx135q, zyx129q, zyx123q, zyx117q, zyx111q, zyx105q, zyx99q, zyx93q, zyx87q, zyx81q, zyx75q, zyx69q, zyx63q, zyx57q, zyx51q] [zyx147q] [zyx147q] = true := by decide +kernel
theorem zyx147k {l : Launch} {D : va_G} {tys : List (ClassId × FieldType)} {o : zO} {z : Nat} (E : zEnv tys) : zPtOk l D vwCl tys o z (zXX o z) zTs mX8_sum zyx147q := zkn_pt E (fun g => List.forall_mem_cons.mpr ⟨zyx146 (o := zwith o g) E, List.forall_mem_cons.mpr ⟨zyx140 (o := zwith o g) E, fun _ h => absurd h List.not_mem_nil⟩⟩) (show zget zprog2 284 = some mX8_sum from rfl) (List.forall_mem_cons.mpr ⟨zyx141k E, List.forall_mem_cons.mpr ⟨zyx135k E, List.forall_mem_cons.mpr ⟨zyx129k E, List.forall_mem_cons.mpr ⟨zyx123k E, List.forall_mem_cons.mpr ⟨zyx117k E, List.forall_mem_cons.mpr ⟨zyx111k E, List.forall_mem_cons.mpr ⟨zyx105k E, List.forall_mem_cons.mpr ⟨zyx99k E, List.forall_mem_cons.mpr ⟨zyx93k E, List.forall_mem_cons.mpr ⟨zyx87k E, List.forall_mem_cons.mpr ⟨zyx81k E, List.forall_mem_cons.mpr ⟨zyx75k E, List.forall_mem_cons.mpr ⟨zyx69k E, List.forall_mem_cons.mpr ⟨zyx63k E, List.forall_mem_cons.mpr ⟨zyx57k E, List.forall_mem_cons.mpr ⟨zyx51k E, fun _ h => absurd h List.not_mem_nil⟩⟩⟩⟩⟩⟩⟩⟩⟩⟩⟩⟩⟩⟩⟩⟩) zyx147c _ List.mem_cons_self
noncomputable def zyx147d : zKw := (284, 5, 70, 8460, zyx147a, zyh242, [(zyx147r, zyh339)])
set_option maxRecDepth 100000 in
theorem zyx147e : zrunw zprog2 (zovW [zyx146d, zyx140d]) 100000 (zcutW [(94, 15)] none ((zyx147r, zyh339), 70, 8460) [zyx147q, zyx141q, zyx135q, zyx129q, zyx123q, zyx117q, zyx111q, zyx105q, zyx99q, zyx93q, zyx87q, zyx81q, zyx75q, zyx69q, zyx63q, zyx57q, zyx51q]) 70 8460 kX8_sum (zkin zyx147r zyh339) 0 (zargs 0 zyx147a, [], (zyh242.1, zyh242.2.1, 0), 0, 0) = true := by decide +kernel
theorem zyx147 {l : Launch} {D : va_G} {tys : List (ClassId × FieldType)} {o : zO} {z : Nat} (E : zEnv tys) : zKnW l D vwCl tys o z (zXX o z) zTs zprog2 zyx147d :=
  zkn_mk E (fun g => List.forall_mem_cons.mpr ⟨zyx146 (o := zwith o g) E, List.forall_mem_cons.mpr ⟨zyx140 (o := zwith o g) E, fun _ h => absurd h List.not_mem_nil⟩⟩) (show zget zprog2 284 = some mX8_sum from rfl) rfl (by decide) (by decide) (by decide) (by decide) (G := [zyx147q, zyx141q, zyx135q, zyx129q, zyx123q, zyx117q, zyx111q, zyx105q, zyx99q, zyx93q, zyx87q, zyx81q, zyx75q, zyx69q, zyx63q, zyx57q, zyx51q]) (List.forall_mem_cons.mpr ⟨zyx147k E, List.forall_mem_cons.mpr ⟨zyx141k E, List.forall_mem_cons.mpr ⟨zyx135k E, List.forall_mem_cons.mpr ⟨zyx129k E, List.forall_mem_cons.mpr ⟨zyx123k E, List.forall_mem_cons.mpr ⟨zyx117k E, List.forall_mem_cons.mpr ⟨zyx111k E, List.forall_mem_cons.mpr ⟨zyx105k E, List.forall_mem_cons.mpr ⟨zyx99k E, List.forall_mem_cons.mpr ⟨zyx93k E, List.forall_mem_cons.mpr ⟨zyx87k E, List.forall_mem_cons.mpr ⟨zyx81k E, List.forall_mem_cons.mpr ⟨zyx75k E, List.forall_mem_cons.mpr ⟨zyx69k E, List.forall_mem_cons.mpr ⟨zyx63k E, List.forall_mem_cons.mpr ⟨zyx57k E, List.forall_mem_cons.mpr ⟨zyx51k E, fun _ h => absurd h List.not_mem_nil⟩⟩⟩⟩⟩⟩⟩⟩⟩⟩⟩⟩⟩⟩⟩⟩⟩) zyx147e
/-! X8_heldBy -/
noncomputable def zyx148a : List zAV := [.inr (.inr (.inl 94)), .inl ((.ofNat 1, .ofNat 4), none)]
def zyx148r : Option zAV := some (.inl ((.negSucc 2147483647, .ofNat 2147483647), none))
noncomputable def zyx148p : List zPw := []
noncomputable def zyx148d : zKw := (229, 3, 71, 8580, zyx148a, zyh242, [(zyx148r, zyh339)])
set_option maxRecDepth 100000 in
theorem zyx148e : zrunw zprog2 (zovW [zyx147d, zyx141d, zyx32d]) 100000 (zcutW [] none ((zyx148r, zyh339), 71, 8580) zyx148p) 71 8580 kX8_heldBy (zkin zyx148r zyh339) 0 (zargs 0 zyx148a, [], (zyh242.1, zyh242.2.1, 0), 0, 0) = true := by decide +kernel
theorem zyx148 {l : Launch} {D : va_G} {tys : List (ClassId × FieldType)} {o : zO} {z : Nat} (E : zEnv tys) : zKnW l D vwCl tys o z (zXX o z) zTs zprog2 zyx148d :=
  zkn_mk E (fun g => List.forall_mem_cons.mpr ⟨zyx147 (o := zwith o g) E, List.forall_mem_cons.mpr ⟨zyx141 (o := zwith o g) E, List.forall_mem_cons.mpr ⟨zyx32 (o := zwith o g) E, fun _ h => absurd h List.not_mem_nil⟩⟩⟩) (show zget zprog2 229 = some mX8_heldBy from rfl) rfl (by decide) (by decide) (by decide) (by decide) (G := zyx148p) (fun _ h => absurd h List.not_mem_nil) zyx148e
/-! X8_oneOf -/
noncomputable def zyx149a : List zAV := [zyv320, zyv362, zyv363]
noncomputable def zyx149q : List (Option zAV × zH) := [(some (.inl ((.ofNat 0, .ofNat 0), none)), zyh340), (some (.inl ((.negSucc 175, .ofNat 79), none)), zyh341)]
noncomputable def zyx149d : zKw := (260, 3, 4, 480, zyx149a, zyh239, zyx149q)
set_option maxRecDepth 100000 in
theorem zyx149e : zrunw zprog2 (zovW []) 100000 zcut0 4 480 kX8_oneOf (zkinL zyx149q) 0 (zargs 0 zyx149a, [], (zyh239.1, zyh239.2.1, 0), 0, 0) = true := by decide +kernel
theorem zyx149 {l : Launch} {D : va_G} {tys : List (ClassId × FieldType)} {o : zO} {z : Nat} (E : zEnv tys) : zKnW l D vwCl tys o z (zXX o z) zTs zprog2 zyx149d :=
  zkn_ml E (fun g => fun _ h => absurd h List.not_mem_nil) (show zget zprog2 260 = some mX8_oneOf from rfl) rfl (by decide) (by decide) (by decide) (by decide) zyx149e
/-! X8_number -/
noncomputable def zyx150a : List zAV := [.inr (.inr (.inl 94)), .inl ((.ofNat 3, .ofNat 3), none)]
def zyx150r : Option zAV := some (.inl ((.negSucc 2147483647, .ofNat 2147483647), none))
noncomputable def zyx150p : List zPw := [((11, ([(0, .inr (.inr (.inl 94))), (1, .inl ((.ofNat 3, .ofNat 3), some (1, .ofNat 0))), (2, .inl ((.negSucc 2147483647, .ofNat 2147483647), some (2, .ofNat 0))), (3, .inl ((.ofNat 1, .ofNat 3), some (3, .ofNat 0)))], [], zyh342, 0, 0), [(3, .negSucc 1)], .ofNat 7), (zyx150r, zyh342), 5, 600)]
noncomputable def zyx150d : zKw := (259, 4, 5, 600, zyx150a, zyh239, [(zyx150r, zyh342)])
set_option maxRecDepth 100000 in
theorem zyx150c : zchkX [] zprog2 (zovW [zyx149d]) 100000 kX8_number [] zyx150p zyx150p = true := by decide +kernel
set_option maxRecDepth 100000 in
theorem zyx150e : zrunw zprog2 (zovW [zyx149d]) 100000 (zcutW [] none ((zyx150r, zyh342), 5, 600) zyx150p) 5 600 kX8_number (zkin zyx150r zyh342) 0 (zargs 0 zyx150a, [], (zyh239.1, zyh239.2.1, 0), 0, 0) = true := by decide +kernel
theorem zyx150 {l : Launch} {D : va_G} {tys : List (ClassId × FieldType)} {o : zO} {z : Nat} (E : zEnv tys) : zKnW l D vwCl tys o z (zXX o z) zTs zprog2 zyx150d :=
  zkn_mk E (fun g => List.forall_mem_cons.mpr ⟨zyx149 (o := zwith o g) E, fun _ h => absurd h List.not_mem_nil⟩) (show zget zprog2 259 = some mX8_number from rfl) rfl (by decide) (by decide) (by decide) (by decide) (G := zyx150p) (zkn_pt E (fun g => List.forall_mem_cons.mpr ⟨zyx149 (o := zwith o g) E, fun _ h => absurd h List.not_mem_nil⟩) (show zget zprog2 259 = some mX8_number from rfl) (fun _ h => absurd h List.not_mem_nil) zyx150c) zyx150e
/-! X8_thing -/
noncomputable def zyx151a : List zAV := [.inr (.inr (.inl 94)), .inl ((.ofNat 0, .ofNat 4), none)]
def zyx151r : Option zAV := some (.inl ((.negSucc 2147483647, .ofNat 2147483647), none))
noncomputable def zyx151p : List zPw := []
noncomputable def zyx151d : zKw := (292, 4, 72, 8700, zyx151a, zyh239, [(zyx151r, zyh342)])
set_option maxRecDepth 100000 in
theorem zyx151e : zrunw zprog2 (zovW [zyx150d, zyx148d, zyx145d, zyx31d, zyx32d]) 100000 (zcutW [] none ((zyx151r, zyh342), 72, 8700) zyx151p) 72 8700 k2X8_thing (zkin zyx151r zyh342) 0 (zargs 0 zyx151a, [], (zyh239.1, zyh239.2.1, 0), 0, 0) = true := by decide +kernel
theorem zyx151 {l : Launch} {D : va_G} {tys : List (ClassId × FieldType)} {o : zO} {z : Nat} (E : zEnv tys) : zKnW l D vwCl tys o z (zXX o z) zTs zprog2 zyx151d :=
  zkn_mk E (fun g => List.forall_mem_cons.mpr ⟨zyx150 (o := zwith o g) E, List.forall_mem_cons.mpr ⟨zyx148 (o := zwith o g) E, List.forall_mem_cons.mpr ⟨zyx145 (o := zwith o g) E, List.forall_mem_cons.mpr ⟨zyx31 (o := zwith o g) E, List.forall_mem_cons.mpr ⟨zyx32 (o := zwith o g) E, fun _ h => absurd h List.not_mem_nil⟩⟩⟩⟩⟩) (show zget zprog2 292 = some m2X8_thing from rfl) rfl (by decide) (by decide) (by decide) (by decide) (G := zyx151p) (fun _ h => absurd h List.not_mem_nil) zyx151e
/-! X8_product ((('r', 99), 40, 23),) -/
noncomputable def zyx152a : List zAV := [.inr (.inr (.inl 94)), .inl ((.ofNat 0, .ofNat 4), none)]
def zyx152r : Option zAV := some (.inl ((.negSucc 2147483647, .ofNat 2147483647), none))
noncomputable def zyx152q : zPw := ((6, ([(0, .inr (.inr (.inl 94))), (1, .inl ((.ofNat 0, .ofNat 4), some (1, .ofNat 0))), (2, .inl ((.negSucc 2147483647, .ofNat 2147483647), some (2, .ofNat 0)))], [], zyh342, 0, 0), [], 0), (zyx152r, zyh342), 73, 8820)
set_option maxRecDepth 100000 in
theorem zyx152c : zchkX [(94, 15)] zprog2 (zovW [zyx151d, zyx145d]) 100000 k2X8_product [zyx146q, zyx140q, zyx134q, zyx128q, zyx122q, zyx116q, zyx110q, zyx104q, zyx98q, zyx92q, zyx86q, zyx80q, zyx74q, zyx68q, zyx62q, zyx56q, zyx50q] [zyx152q] [zyx152q] = true := by decide +kernel
theorem zyx152k {l : Launch} {D : va_G} {tys : List (ClassId × FieldType)} {o : zO} {z : Nat} (E : zEnv tys) : zPtOk l D vwCl tys o z (zXX o z) zTs m2X8_product zyx152q := zkn_pt E (fun g => List.forall_mem_cons.mpr ⟨zyx151 (o := zwith o g) E, List.forall_mem_cons.mpr ⟨zyx145 (o := zwith o g) E, fun _ h => absurd h List.not_mem_nil⟩⟩) (show zget zprog2 265 = some m2X8_product from rfl) (List.forall_mem_cons.mpr ⟨zyx146k E, List.forall_mem_cons.mpr ⟨zyx140k E, List.forall_mem_cons.mpr ⟨zyx134k E, List.forall_mem_cons.mpr ⟨zyx128k E, List.forall_mem_cons.mpr ⟨zyx122k E, List.forall_mem_cons.mpr ⟨zyx116k E, List.forall_mem_cons.mpr ⟨zyx110k E, List.forall_mem_cons.mpr ⟨zyx104k E, List.forall_mem_cons.mpr ⟨zyx98k E, List.forall_mem_cons.mpr ⟨zyx92k E, List.forall_mem_cons.mpr ⟨zyx86k E, List.forall_mem_cons.mpr ⟨zyx80k E, List.forall_mem_cons.mpr ⟨zyx74k E, List.forall_mem_cons.mpr ⟨zyx68k E, List.forall_mem_cons.mpr ⟨zyx62k E, List.forall_mem_cons.mpr ⟨zyx56k E, List.forall_mem_cons.mpr ⟨zyx50k E, fun _ h => absurd h List.not_mem_nil⟩⟩⟩⟩⟩⟩⟩⟩⟩⟩⟩⟩⟩⟩⟩⟩⟩) zyx152c _ List.mem_cons_self
noncomputable def zyx152d : zKw := (265, 5, 73, 8820, zyx152a, zyh239, [(zyx152r, zyh342)])
set_option maxRecDepth 100000 in
theorem zyx152e : zrunw zprog2 (zovW [zyx151d, zyx145d]) 100000 (zcutW [(94, 15)] none ((zyx152r, zyh342), 73, 8820) [zyx152q, zyx146q, zyx140q, zyx134q, zyx128q, zyx122q, zyx116q, zyx110q, zyx104q, zyx98q, zyx92q, zyx86q, zyx80q, zyx74q, zyx68q, zyx62q, zyx56q, zyx50q]) 73 8820 k2X8_product (zkin zyx152r zyh342) 0 (zargs 0 zyx152a, [], (zyh239.1, zyh239.2.1, 0), 0, 0) = true := by decide +kernel
theorem zyx152 {l : Launch} {D : va_G} {tys : List (ClassId × FieldType)} {o : zO} {z : Nat} (E : zEnv tys) : zKnW l D vwCl tys o z (zXX o z) zTs zprog2 zyx152d :=
  zkn_mk E (fun g => List.forall_mem_cons.mpr ⟨zyx151 (o := zwith o g) E, List.forall_mem_cons.mpr ⟨zyx145 (o := zwith o g) E, fun _ h => absurd h List.not_mem_nil⟩⟩) (show zget zprog2 265 = some m2X8_product from rfl) rfl (by decide) (by decide) (by decide) (by decide) (G := [zyx152q, zyx146q, zyx140q, zyx134q, zyx128q, zyx122q, zyx116q, zyx110q, zyx104q, zyx98q, zyx92q, zyx86q, zyx80q, zyx74q, zyx68q, zyx62q, zyx56q, zyx50q]) (List.forall_mem_cons.mpr ⟨zyx152k E, List.forall_mem_cons.mpr ⟨zyx146k E, List.forall_mem_cons.mpr ⟨zyx140k E, List.forall_mem_cons.mpr ⟨zyx134k E, List.forall_mem_cons.mpr ⟨zyx128k E, List.forall_mem_cons.mpr ⟨zyx122k E, List.forall_mem_cons.mpr ⟨zyx116k E, List.forall_mem_cons.mpr ⟨zyx110k E, List.forall_mem_cons.mpr ⟨zyx104k E, List.forall_mem_cons.mpr ⟨zyx98k E, List.forall_mem_cons.mpr ⟨zyx92k E, List.forall_mem_cons.mpr ⟨zyx86k E, List.forall_mem_cons.mpr ⟨zyx80k E, List.forall_mem_cons.mpr ⟨zyx74k E, List.forall_mem_cons.mpr ⟨zyx68k E, List.forall_mem_cons.mpr ⟨zyx62k E, List.forall_mem_cons.mpr ⟨zyx56k E, List.forall_mem_cons.mpr ⟨zyx50k E, fun _ h => absurd h List.not_mem_nil⟩⟩⟩⟩⟩⟩⟩⟩⟩⟩⟩⟩⟩⟩⟩⟩⟩⟩) zyx152e
/-! X8_sum ((('r', 99), 40, 23),) -/
noncomputable def zyx153a : List zAV := [.inr (.inr (.inl 94)), .inl ((.ofNat 1, .ofNat 4), none)]
def zyx153r : Option zAV := some (.inl ((.negSucc 2147483647, .ofNat 2147483647), none))
noncomputable def zyx153q : zPw := ((6, ([(0, .inr (.inr (.inl 94))), (1, .inl ((.ofNat 0, .ofNat 4), some (1, .ofNat 0))), (2, .inl ((.negSucc 2147483647, .ofNat 2147483647), some (2, .ofNat 0)))], [], zyh342, 0, 0), [], 0), (zyx153r, zyh342), 74, 8940)
set_option maxRecDepth 100000 in
theorem zyx153c : zchkX [(94, 15)] zprog2 (zovW [zyx152d, zyx146d]) 100000 kX8_sum [zyx147q, zyx141q, zyx135q, zyx129q, zyx123q, zyx117q, zyx111q, zyx105q, zyx99q, zyx93q, zyx87q, zyx81q, zyx75q, zyx69q, zyx63q, zyx57q, zyx51q] [zyx153q] [zyx153q] = true := by decide +kernel
theorem zyx153k {l : Launch} {D : va_G} {tys : List (ClassId × FieldType)} {o : zO} {z : Nat} (E : zEnv tys) : zPtOk l D vwCl tys o z (zXX o z) zTs mX8_sum zyx153q := zkn_pt E (fun g => List.forall_mem_cons.mpr ⟨zyx152 (o := zwith o g) E, List.forall_mem_cons.mpr ⟨zyx146 (o := zwith o g) E, fun _ h => absurd h List.not_mem_nil⟩⟩) (show zget zprog2 284 = some mX8_sum from rfl) (List.forall_mem_cons.mpr ⟨zyx147k E, List.forall_mem_cons.mpr ⟨zyx141k E, List.forall_mem_cons.mpr ⟨zyx135k E, List.forall_mem_cons.mpr ⟨zyx129k E, List.forall_mem_cons.mpr ⟨zyx123k E, List.forall_mem_cons.mpr ⟨zyx117k E, List.forall_mem_cons.mpr ⟨zyx111k E, List.forall_mem_cons.mpr ⟨zyx105k E, List.forall_mem_cons.mpr ⟨zyx99k E, List.forall_mem_cons.mpr ⟨zyx93k E, List.forall_mem_cons.mpr ⟨zyx87k E, List.forall_mem_cons.mpr ⟨zyx81k E, List.forall_mem_cons.mpr ⟨zyx75k E, List.forall_mem_cons.mpr ⟨zyx69k E, List.forall_mem_cons.mpr ⟨zyx63k E, List.forall_mem_cons.mpr ⟨zyx57k E, List.forall_mem_cons.mpr ⟨zyx51k E, fun _ h => absurd h List.not_mem_nil⟩⟩⟩⟩⟩⟩⟩⟩⟩⟩⟩⟩⟩⟩⟩⟩⟩) zyx153c _ List.mem_cons_self
noncomputable def zyx153d : zKw := (284, 5, 74, 8940, zyx153a, zyh239, [(zyx153r, zyh342)])
set_option maxRecDepth 100000 in
theorem zyx153e : zrunw zprog2 (zovW [zyx152d, zyx146d]) 100000 (zcutW [(94, 15)] none ((zyx153r, zyh342), 74, 8940) [zyx153q, zyx147q, zyx141q, zyx135q, zyx129q, zyx123q, zyx117q, zyx111q, zyx105q, zyx99q, zyx93q, zyx87q, zyx81q, zyx75q, zyx69q, zyx63q, zyx57q, zyx51q]) 74 8940 kX8_sum (zkin zyx153r zyh342) 0 (zargs 0 zyx153a, [], (zyh239.1, zyh239.2.1, 0), 0, 0) = true := by decide +kernel
theorem zyx153 {l : Launch} {D : va_G} {tys : List (ClassId × FieldType)} {o : zO} {z : Nat} (E : zEnv tys) : zKnW l D vwCl tys o z (zXX o z) zTs zprog2 zyx153d :=
  zkn_mk E (fun g => List.forall_mem_cons.mpr ⟨zyx152 (o := zwith o g) E, List.forall_mem_cons.mpr ⟨zyx146 (o := zwith o g) E, fun _ h => absurd h List.not_mem_nil⟩⟩) (show zget zprog2 284 = some mX8_sum from rfl) rfl (by decide) (by decide) (by decide) (by decide) (G := [zyx153q, zyx147q, zyx141q, zyx135q, zyx129q, zyx123q, zyx117q, zyx111q, zyx105q, zyx99q, zyx93q, zyx87q, zyx81q, zyx75q, zyx69q, zyx63q, zyx57q, zyx51q]) (List.forall_mem_cons.mpr ⟨zyx153k E, List.forall_mem_cons.mpr ⟨zyx147k E, List.forall_mem_cons.mpr ⟨zyx141k E, List.forall_mem_cons.mpr ⟨zyx135k E, List.forall_mem_cons.mpr ⟨zyx129k E, List.forall_mem_cons.mpr ⟨zyx123k E, List.forall_mem_cons.mpr ⟨zyx117k E, List.forall_mem_cons.mpr ⟨zyx111k E, List.forall_mem_cons.mpr ⟨zyx105k E, List.forall_mem_cons.mpr ⟨zyx99k E, List.forall_mem_cons.mpr ⟨zyx93k E, List.forall_mem_cons.mpr ⟨zyx87k E, List.forall_mem_cons.mpr ⟨zyx81k E, List.forall_mem_cons.mpr ⟨zyx75k E, List.forall_mem_cons.mpr ⟨zyx69k E, List.forall_mem_cons.mpr ⟨zyx63k E, List.forall_mem_cons.mpr ⟨zyx57k E, List.forall_mem_cons.mpr ⟨zyx51k E, fun _ h => absurd h List.not_mem_nil⟩⟩⟩⟩⟩⟩⟩⟩⟩⟩⟩⟩⟩⟩⟩⟩⟩⟩) zyx153e
/-! X8_heldBy -/
noncomputable def zyx154a : List zAV := [.inr (.inr (.inl 94)), .inl ((.ofNat 1, .ofNat 4), none)]
def zyx154r : Option zAV := some (.inl ((.negSucc 2147483647, .ofNat 2147483647), none))
noncomputable def zyx154p : List zPw := []
noncomputable def zyx154d : zKw := (229, 3, 75, 9060, zyx154a, zyh239, [(zyx154r, zyh342)])
set_option maxRecDepth 100000 in
theorem zyx154e : zrunw zprog2 (zovW [zyx153d, zyx147d, zyx31d]) 100000 (zcutW [] none ((zyx154r, zyh342), 75, 9060) zyx154p) 75 9060 kX8_heldBy (zkin zyx154r zyh342) 0 (zargs 0 zyx154a, [], (zyh239.1, zyh239.2.1, 0), 0, 0) = true := by decide +kernel
theorem zyx154 {l : Launch} {D : va_G} {tys : List (ClassId × FieldType)} {o : zO} {z : Nat} (E : zEnv tys) : zKnW l D vwCl tys o z (zXX o z) zTs zprog2 zyx154d :=
  zkn_mk E (fun g => List.forall_mem_cons.mpr ⟨zyx153 (o := zwith o g) E, List.forall_mem_cons.mpr ⟨zyx147 (o := zwith o g) E, List.forall_mem_cons.mpr ⟨zyx31 (o := zwith o g) E, fun _ h => absurd h List.not_mem_nil⟩⟩⟩) (show zget zprog2 229 = some mX8_heldBy from rfl) rfl (by decide) (by decide) (by decide) (by decide) (G := zyx154p) (fun _ h => absurd h List.not_mem_nil) zyx154e
/-! X8_oneOf -/
noncomputable def zyx155a : List zAV := [zyv320, zyv362, zyv363]
noncomputable def zyx155q : List (Option zAV × zH) := [(some (.inl ((.ofNat 0, .ofNat 0), none)), zyh343), (some (.inl ((.negSucc 175, .ofNat 79), none)), zyh344)]
noncomputable def zyx155d : zKw := (260, 3, 4, 480, zyx155a, zyh236, zyx155q)
set_option maxRecDepth 100000 in
theorem zyx155e : zrunw zprog2 (zovW []) 100000 zcut0 4 480 kX8_oneOf (zkinL zyx155q) 0 (zargs 0 zyx155a, [], (zyh236.1, zyh236.2.1, 0), 0, 0) = true := by decide +kernel
theorem zyx155 {l : Launch} {D : va_G} {tys : List (ClassId × FieldType)} {o : zO} {z : Nat} (E : zEnv tys) : zKnW l D vwCl tys o z (zXX o z) zTs zprog2 zyx155d :=
  zkn_ml E (fun g => fun _ h => absurd h List.not_mem_nil) (show zget zprog2 260 = some mX8_oneOf from rfl) rfl (by decide) (by decide) (by decide) (by decide) zyx155e
/-! X8_number -/
noncomputable def zyx156a : List zAV := [.inr (.inr (.inl 94)), .inl ((.ofNat 3, .ofNat 3), none)]
def zyx156r : Option zAV := some (.inl ((.negSucc 2147483647, .ofNat 2147483647), none))
noncomputable def zyx156p : List zPw := [((11, ([(0, .inr (.inr (.inl 94))), (1, .inl ((.ofNat 3, .ofNat 3), some (1, .ofNat 0))), (2, .inl ((.negSucc 2147483647, .ofNat 2147483647), some (2, .ofNat 0))), (3, .inl ((.ofNat 1, .ofNat 3), some (3, .ofNat 0)))], [], zyh345, 0, 0), [(3, .negSucc 1)], .ofNat 7), (zyx156r, zyh345), 5, 600)]
noncomputable def zyx156d : zKw := (259, 4, 5, 600, zyx156a, zyh236, [(zyx156r, zyh345)])
set_option maxRecDepth 100000 in
theorem zyx156c : zchkX [] zprog2 (zovW [zyx155d]) 100000 kX8_number [] zyx156p zyx156p = true := by decide +kernel
set_option maxRecDepth 100000 in
theorem zyx156e : zrunw zprog2 (zovW [zyx155d]) 100000 (zcutW [] none ((zyx156r, zyh345), 5, 600) zyx156p) 5 600 kX8_number (zkin zyx156r zyh345) 0 (zargs 0 zyx156a, [], (zyh236.1, zyh236.2.1, 0), 0, 0) = true := by decide +kernel
theorem zyx156 {l : Launch} {D : va_G} {tys : List (ClassId × FieldType)} {o : zO} {z : Nat} (E : zEnv tys) : zKnW l D vwCl tys o z (zXX o z) zTs zprog2 zyx156d :=
  zkn_mk E (fun g => List.forall_mem_cons.mpr ⟨zyx155 (o := zwith o g) E, fun _ h => absurd h List.not_mem_nil⟩) (show zget zprog2 259 = some mX8_number from rfl) rfl (by decide) (by decide) (by decide) (by decide) (G := zyx156p) (zkn_pt E (fun g => List.forall_mem_cons.mpr ⟨zyx155 (o := zwith o g) E, fun _ h => absurd h List.not_mem_nil⟩) (show zget zprog2 259 = some mX8_number from rfl) (fun _ h => absurd h List.not_mem_nil) zyx156c) zyx156e
/-! X8_thing -/
noncomputable def zyx157a : List zAV := [.inr (.inr (.inl 94)), .inl ((.ofNat 0, .ofNat 4), none)]
def zyx157r : Option zAV := some (.inl ((.negSucc 2147483647, .ofNat 2147483647), none))
noncomputable def zyx157p : List zPw := []
noncomputable def zyx157d : zKw := (292, 4, 76, 9180, zyx157a, zyh236, [(zyx157r, zyh345)])
set_option maxRecDepth 100000 in
theorem zyx157e : zrunw zprog2 (zovW [zyx156d, zyx154d, zyx151d, zyx30d, zyx31d]) 100000 (zcutW [] none ((zyx157r, zyh345), 76, 9180) zyx157p) 76 9180 k2X8_thing (zkin zyx157r zyh345) 0 (zargs 0 zyx157a, [], (zyh236.1, zyh236.2.1, 0), 0, 0) = true := by decide +kernel
theorem zyx157 {l : Launch} {D : va_G} {tys : List (ClassId × FieldType)} {o : zO} {z : Nat} (E : zEnv tys) : zKnW l D vwCl tys o z (zXX o z) zTs zprog2 zyx157d :=
  zkn_mk E (fun g => List.forall_mem_cons.mpr ⟨zyx156 (o := zwith o g) E, List.forall_mem_cons.mpr ⟨zyx154 (o := zwith o g) E, List.forall_mem_cons.mpr ⟨zyx151 (o := zwith o g) E, List.forall_mem_cons.mpr ⟨zyx30 (o := zwith o g) E, List.forall_mem_cons.mpr ⟨zyx31 (o := zwith o g) E, fun _ h => absurd h List.not_mem_nil⟩⟩⟩⟩⟩) (show zget zprog2 292 = some m2X8_thing from rfl) rfl (by decide) (by decide) (by decide) (by decide) (G := zyx157p) (fun _ h => absurd h List.not_mem_nil) zyx157e
/-! X8_product ((('r', 99), 40, 22),) -/
noncomputable def zyx158a : List zAV := [.inr (.inr (.inl 94)), .inl ((.ofNat 0, .ofNat 4), none)]
def zyx158r : Option zAV := some (.inl ((.negSucc 2147483647, .ofNat 2147483647), none))
noncomputable def zyx158q : zPw := ((6, ([(0, .inr (.inr (.inl 94))), (1, .inl ((.ofNat 0, .ofNat 4), some (1, .ofNat 0))), (2, .inl ((.negSucc 2147483647, .ofNat 2147483647), some (2, .ofNat 0)))], [], zyh345, 0, 0), [], 0), (zyx158r, zyh345), 77, 9300)
set_option maxRecDepth 100000 in
theorem zyx158c : zchkX [(94, 15)] zprog2 (zovW [zyx157d, zyx151d]) 100000 k2X8_product [zyx152q, zyx146q, zyx140q, zyx134q, zyx128q, zyx122q, zyx116q, zyx110q, zyx104q, zyx98q, zyx92q, zyx86q, zyx80q, zyx74q, zyx68q, zyx62q, zyx56q, zyx50q] [zyx158q] [zyx158q] = true := by decide +kernel
theorem zyx158k {l : Launch} {D : va_G} {tys : List (ClassId × FieldType)} {o : zO} {z : Nat} (E : zEnv tys) : zPtOk l D vwCl tys o z (zXX o z) zTs m2X8_product zyx158q := zkn_pt E (fun g => List.forall_mem_cons.mpr ⟨zyx157 (o := zwith o g) E, List.forall_mem_cons.mpr ⟨zyx151 (o := zwith o g) E, fun _ h => absurd h List.not_mem_nil⟩⟩) (show zget zprog2 265 = some m2X8_product from rfl) (List.forall_mem_cons.mpr ⟨zyx152k E, List.forall_mem_cons.mpr ⟨zyx146k E, List.forall_mem_cons.mpr ⟨zyx140k E, List.forall_mem_cons.mpr ⟨zyx134k E, List.forall_mem_cons.mpr ⟨zyx128k E, List.forall_mem_cons.mpr ⟨zyx122k E, List.forall_mem_cons.mpr ⟨zyx116k E, List.forall_mem_cons.mpr ⟨zyx110k E, List.forall_mem_cons.mpr ⟨zyx104k E, List.forall_mem_cons.mpr ⟨zyx98k E, List.forall_mem_cons.mpr ⟨zyx92k E, List.forall_mem_cons.mpr ⟨zyx86k E, List.forall_mem_cons.mpr ⟨zyx80k E, List.forall_mem_cons.mpr ⟨zyx74k E, List.forall_mem_cons.mpr ⟨zyx68k E, List.forall_mem_cons.mpr ⟨zyx62k E, List.forall_mem_cons.mpr ⟨zyx56k E, List.forall_mem_cons.mpr ⟨zyx50k E, fun _ h => absurd h List.not_mem_nil⟩⟩⟩⟩⟩⟩⟩⟩⟩⟩⟩⟩⟩⟩⟩⟩⟩⟩) zyx158c _ List.mem_cons_self
noncomputable def zyx158d : zKw := (265, 5, 77, 9300, zyx158a, zyh236, [(zyx158r, zyh345)])
set_option maxRecDepth 100000 in
theorem zyx158e : zrunw zprog2 (zovW [zyx157d, zyx151d]) 100000 (zcutW [(94, 15)] none ((zyx158r, zyh345), 77, 9300) [zyx158q, zyx152q, zyx146q, zyx140q, zyx134q, zyx128q, zyx122q, zyx116q, zyx110q, zyx104q, zyx98q, zyx92q, zyx86q, zyx80q, zyx74q, zyx68q, zyx62q, zyx56q, zyx50q]) 77 9300 k2X8_product (zkin zyx158r zyh345) 0 (zargs 0 zyx158a, [], (zyh236.1, zyh236.2.1, 0), 0, 0) = true := by decide +kernel
theorem zyx158 {l : Launch} {D : va_G} {tys : List (ClassId × FieldType)} {o : zO} {z : Nat} (E : zEnv tys) : zKnW l D vwCl tys o z (zXX o z) zTs zprog2 zyx158d :=
  zkn_mk E (fun g => List.forall_mem_cons.mpr ⟨zyx157 (o := zwith o g) E, List.forall_mem_cons.mpr ⟨zyx151 (o := zwith o g) E, fun _ h => absurd h List.not_mem_nil⟩⟩) (show zget zprog2 265 = some m2X8_product from rfl) rfl (by decide) (by decide) (by decide) (by decide) (G := [zyx158q, zyx152q, zyx146q, zyx140q, zyx134q, zyx128q, zyx122q, zyx116q, zyx110q, zyx104q, zyx98q, zyx92q, zyx86q, zyx80q, zyx74q, zyx68q, zyx62q, zyx56q, zyx50q]) (List.forall_mem_cons.mpr ⟨zyx158k E, List.forall_mem_cons.mpr ⟨zyx152k E, List.forall_mem_cons.mpr ⟨zyx146k E, List.forall_mem_cons.mpr ⟨zyx140k E, List.forall_mem_cons.mpr ⟨zyx134k E, List.forall_mem_cons.mpr ⟨zyx128k E, List.forall_mem_cons.mpr ⟨zyx122k E, List.forall_mem_cons.mpr ⟨zyx116k E, List.forall_mem_cons.mpr ⟨zyx110k E, List.forall_mem_cons.mpr ⟨zyx104k E, List.forall_mem_cons.mpr ⟨zyx98k E, List.forall_mem_cons.mpr ⟨zyx92k E, List.forall_mem_cons.mpr ⟨zyx86k E, List.forall_mem_cons.mpr ⟨zyx80k E, List.forall_mem_cons.mpr ⟨zyx74k E, List.forall_mem_cons.mpr ⟨zyx68k E, List.forall_mem_cons.mpr ⟨zyx62k E, List.forall_mem_cons.mpr ⟨zyx56k E, List.forall_mem_cons.mpr ⟨zyx50k E, fun _ h => absurd h List.not_mem_nil⟩⟩⟩⟩⟩⟩⟩⟩⟩⟩⟩⟩⟩⟩⟩⟩⟩⟩⟩) zyx158e
/-! X8_sum ((('r', 99), 40, 22),) -/
noncomputable def zyx159a : List zAV := [.inr (.inr (.inl 94)), .inl ((.ofNat 1, .ofNat 4), none)]
def zyx159r : Option zAV := some (.inl ((.negSucc 2147483647, .ofNat 2147483647), none))
noncomputable def zyx159q : zPw := ((6, ([(0, .inr (.inr (.inl 94))), (1, .inl ((.ofNat 0, .ofNat 4), some (1, .ofNat 0))), (2, .inl ((.negSucc 2147483647, .ofNat 2147483647), some (2, .ofNat 0)))], [], zyh345, 0, 0), [], 0), (zyx159r, zyh345), 78, 9420)
set_option maxRecDepth 100000 in
theorem zyx159c : zchkX [(94, 15)] zprog2 (zovW [zyx158d, zyx152d]) 100000 kX8_sum [zyx153q, zyx147q, zyx141q, zyx135q, zyx129q, zyx123q, zyx117q, zyx111q, zyx105q, zyx99q, zyx93q, zyx87q, zyx81q, zyx75q, zyx69q, zyx63q, zyx57q, zyx51q] [zyx159q] [zyx159q] = true := by decide +kernel
theorem zyx159k {l : Launch} {D : va_G} {tys : List (ClassId × FieldType)} {o : zO} {z : Nat} (E : zEnv tys) : zPtOk l D vwCl tys o z (zXX o z) zTs mX8_sum zyx159q := zkn_pt E (fun g => List.forall_mem_cons.mpr ⟨zyx158 (o := zwith o g) E, List.forall_mem_cons.mpr ⟨zyx152 (o := zwith o g) E, fun _ h => absurd h List.not_mem_nil⟩⟩) (show zget zprog2 284 = some mX8_sum from rfl) (List.forall_mem_cons.mpr ⟨zyx153k E, List.forall_mem_cons.mpr ⟨zyx147k E, List.forall_mem_cons.mpr ⟨zyx141k E, List.forall_mem_cons.mpr ⟨zyx135k E, List.forall_mem_cons.mpr ⟨zyx129k E, List.forall_mem_cons.mpr ⟨zyx123k E, List.forall_mem_cons.mpr ⟨zyx117k E, List.forall_mem_cons.mpr ⟨zyx111k E, List.forall_mem_cons.mpr ⟨zyx105k E, List.forall_mem_cons.mpr ⟨zyx99k E, List.forall_mem_cons.mpr ⟨zyx93k E, List.forall_mem_cons.mpr ⟨zyx87k E, List.forall_mem_cons.mpr ⟨zyx81k E, List.forall_mem_cons.mpr ⟨zyx75k E, List.forall_mem_cons.mpr ⟨zyx69k E, List.forall_mem_cons.mpr ⟨zyx63k E, List.forall_mem_cons.mpr ⟨zyx57k E, List.forall_mem_cons.mpr ⟨zyx51k E, fun _ h => absurd h List.not_mem_nil⟩⟩⟩⟩⟩⟩⟩⟩⟩⟩⟩⟩⟩⟩⟩⟩⟩⟩) zyx159c _ List.mem_cons_self
noncomputable def zyx159d : zKw := (284, 5, 78, 9420, zyx159a, zyh236, [(zyx159r, zyh345)])
set_option maxRecDepth 100000 in
theorem zyx159e : zrunw zprog2 (zovW [zyx158d, zyx152d]) 100000 (zcutW [(94, 15)] none ((zyx159r, zyh345), 78, 9420) [zyx159q, zyx153q, zyx147q, zyx141q, zyx135q, zyx129q, zyx123q, zyx117q, zyx111q, zyx105q, zyx99q, zyx93q, zyx87q, zyx81q, zyx75q, zyx69q, zyx63q, zyx57q, zyx51q]) 78 9420 kX8_sum (zkin zyx159r zyh345) 0 (zargs 0 zyx159a, [], (zyh236.1, zyh236.2.1, 0), 0, 0) = true := by decide +kernel
theorem zyx159 {l : Launch} {D : va_G} {tys : List (ClassId × FieldType)} {o : zO} {z : Nat} (E : zEnv tys) : zKnW l D vwCl tys o z (zXX o z) zTs zprog2 zyx159d :=
  zkn_mk E (fun g => List.forall_mem_cons.mpr ⟨zyx158 (o := zwith o g) E, List.forall_mem_cons.mpr ⟨zyx152 (o := zwith o g) E, fun _ h => absurd h List.not_mem_nil⟩⟩) (show zget zprog2 284 = some mX8_sum from rfl) rfl (by decide) (by decide) (by decide) (by decide) (G := [zyx159q, zyx153q, zyx147q, zyx141q, zyx135q, zyx129q, zyx123q, zyx117q, zyx111q, zyx105q, zyx99q, zyx93q, zyx87q, zyx81q, zyx75q, zyx69q, zyx63q, zyx57q, zyx51q]) (List.forall_mem_cons.mpr ⟨zyx159k E, List.forall_mem_cons.mpr ⟨zyx153k E, List.forall_mem_cons.mpr ⟨zyx147k E, List.forall_mem_cons.mpr ⟨zyx141k E, List.forall_mem_cons.mpr ⟨zyx135k E, List.forall_mem_cons.mpr ⟨zyx129k E, List.forall_mem_cons.mpr ⟨zyx123k E, List.forall_mem_cons.mpr ⟨zyx117k E, List.forall_mem_cons.mpr ⟨zyx111k E, List.forall_mem_cons.mpr ⟨zyx105k E, List.forall_mem_cons.mpr ⟨zyx99k E, List.forall_mem_cons.mpr ⟨zyx93k E, List.forall_mem_cons.mpr ⟨zyx87k E, List.forall_mem_cons.mpr ⟨zyx81k E, List.forall_mem_cons.mpr ⟨zyx75k E, List.forall_mem_cons.mpr ⟨zyx69k E, List.forall_mem_cons.mpr ⟨zyx63k E, List.forall_mem_cons.mpr ⟨zyx57k E, List.forall_mem_cons.mpr ⟨zyx51k E, fun _ h => absurd h List.not_mem_nil⟩⟩⟩⟩⟩⟩⟩⟩⟩⟩⟩⟩⟩⟩⟩⟩⟩⟩⟩) zyx159e
/-! X8_heldBy -/
noncomputable def zyx160a : List zAV := [.inr (.inr (.inl 94)), .inl ((.ofNat 1, .ofNat 4), none)]
def zyx160r : Option zAV := some (.inl ((.negSucc 2147483647, .ofNat 2147483647), none))
noncomputable def zyx160p : List zPw := []
noncomputable def zyx160d : zKw := (229, 3, 79, 9540, zyx160a, zyh236, [(zyx160r, zyh345)])
set_option maxRecDepth 100000 in
theorem zyx160e : zrunw zprog2 (zovW [zyx159d, zyx153d, zyx30d]) 100000 (zcutW [] none ((zyx160r, zyh345), 79, 9540) zyx160p) 79 9540 kX8_heldBy (zkin zyx160r zyh345) 0 (zargs 0 zyx160a, [], (zyh236.1, zyh236.2.1, 0), 0, 0) = true := by decide +kernel
theorem zyx160 {l : Launch} {D : va_G} {tys : List (ClassId × FieldType)} {o : zO} {z : Nat} (E : zEnv tys) : zKnW l D vwCl tys o z (zXX o z) zTs zprog2 zyx160d :=
  zkn_mk E (fun g => List.forall_mem_cons.mpr ⟨zyx159 (o := zwith o g) E, List.forall_mem_cons.mpr ⟨zyx153 (o := zwith o g) E, List.forall_mem_cons.mpr ⟨zyx30 (o := zwith o g) E, fun _ h => absurd h List.not_mem_nil⟩⟩⟩) (show zget zprog2 229 = some mX8_heldBy from rfl) rfl (by decide) (by decide) (by decide) (by decide) (G := zyx160p) (fun _ h => absurd h List.not_mem_nil) zyx160e
/-! X8_oneOf -/
noncomputable def zyx161a : List zAV := [zyv320, zyv362, zyv363]
noncomputable def zyx161q : List (Option zAV × zH) := [(some (.inl ((.ofNat 0, .ofNat 0), none)), zyh346), (some (.inl ((.negSucc 175, .ofNat 79), none)), zyh347)]
noncomputable def zyx161d : zKw := (260, 3, 4, 480, zyx161a, zyh233, zyx161q)
set_option maxRecDepth 100000 in
theorem zyx161e : zrunw zprog2 (zovW []) 100000 zcut0 4 480 kX8_oneOf (zkinL zyx161q) 0 (zargs 0 zyx161a, [], (zyh233.1, zyh233.2.1, 0), 0, 0) = true := by decide +kernel
theorem zyx161 {l : Launch} {D : va_G} {tys : List (ClassId × FieldType)} {o : zO} {z : Nat} (E : zEnv tys) : zKnW l D vwCl tys o z (zXX o z) zTs zprog2 zyx161d :=
  zkn_ml E (fun g => fun _ h => absurd h List.not_mem_nil) (show zget zprog2 260 = some mX8_oneOf from rfl) rfl (by decide) (by decide) (by decide) (by decide) zyx161e
/-! X8_number -/
noncomputable def zyx162a : List zAV := [.inr (.inr (.inl 94)), .inl ((.ofNat 3, .ofNat 3), none)]
def zyx162r : Option zAV := some (.inl ((.negSucc 2147483647, .ofNat 2147483647), none))
noncomputable def zyx162p : List zPw := [((11, ([(0, .inr (.inr (.inl 94))), (1, .inl ((.ofNat 3, .ofNat 3), some (1, .ofNat 0))), (2, .inl ((.negSucc 2147483647, .ofNat 2147483647), some (2, .ofNat 0))), (3, .inl ((.ofNat 1, .ofNat 3), some (3, .ofNat 0)))], [], zyh348, 0, 0), [(3, .negSucc 1)], .ofNat 7), (zyx162r, zyh348), 5, 600)]
noncomputable def zyx162d : zKw := (259, 4, 5, 600, zyx162a, zyh233, [(zyx162r, zyh348)])
set_option maxRecDepth 100000 in
theorem zyx162c : zchkX [] zprog2 (zovW [zyx161d]) 100000 kX8_number [] zyx162p zyx162p = true := by decide +kernel
set_option maxRecDepth 100000 in
theorem zyx162e : zrunw zprog2 (zovW [zyx161d]) 100000 (zcutW [] none ((zyx162r, zyh348), 5, 600) zyx162p) 5 600 kX8_number (zkin zyx162r zyh348) 0 (zargs 0 zyx162a, [], (zyh233.1, zyh233.2.1, 0), 0, 0) = true := by decide +kernel
theorem zyx162 {l : Launch} {D : va_G} {tys : List (ClassId × FieldType)} {o : zO} {z : Nat} (E : zEnv tys) : zKnW l D vwCl tys o z (zXX o z) zTs zprog2 zyx162d :=
  zkn_mk E (fun g => List.forall_mem_cons.mpr ⟨zyx161 (o := zwith o g) E, fun _ h => absurd h List.not_mem_nil⟩) (show zget zprog2 259 = some mX8_number from rfl) rfl (by decide) (by decide) (by decide) (by decide) (G := zyx162p) (zkn_pt E (fun g => List.forall_mem_cons.mpr ⟨zyx161 (o := zwith o g) E, fun _ h => absurd h List.not_mem_nil⟩) (show zget zprog2 259 = some mX8_number from rfl) (fun _ h => absurd h List.not_mem_nil) zyx162c) zyx162e
/-! X8_thing -/
noncomputable def zyx163a : List zAV := [.inr (.inr (.inl 94)), .inl ((.ofNat 0, .ofNat 4), none)]
def zyx163r : Option zAV := some (.inl ((.negSucc 2147483647, .ofNat 2147483647), none))
noncomputable def zyx163p : List zPw := []
noncomputable def zyx163d : zKw := (292, 4, 80, 9660, zyx163a, zyh233, [(zyx163r, zyh348)])
set_option maxRecDepth 100000 in
theorem zyx163e : zrunw zprog2 (zovW [zyx162d, zyx160d, zyx157d, zyx29d, zyx30d]) 100000 (zcutW [] none ((zyx163r, zyh348), 80, 9660) zyx163p) 80 9660 k2X8_thing (zkin zyx163r zyh348) 0 (zargs 0 zyx163a, [], (zyh233.1, zyh233.2.1, 0), 0, 0) = true := by decide +kernel
theorem zyx163 {l : Launch} {D : va_G} {tys : List (ClassId × FieldType)} {o : zO} {z : Nat} (E : zEnv tys) : zKnW l D vwCl tys o z (zXX o z) zTs zprog2 zyx163d :=
  zkn_mk E (fun g => List.forall_mem_cons.mpr ⟨zyx162 (o := zwith o g) E, List.forall_mem_cons.mpr ⟨zyx160 (o := zwith o g) E, List.forall_mem_cons.mpr ⟨zyx157 (o := zwith o g) E, List.forall_mem_cons.mpr ⟨zyx29 (o := zwith o g) E, List.forall_mem_cons.mpr ⟨zyx30 (o := zwith o g) E, fun _ h => absurd h List.not_mem_nil⟩⟩⟩⟩⟩) (show zget zprog2 292 = some m2X8_thing from rfl) rfl (by decide) (by decide) (by decide) (by decide) (G := zyx163p) (fun _ h => absurd h List.not_mem_nil) zyx163e
