noncomputable def zyc469 : zC := .inr (8, [zyv120, zyv15, zyv15, zyv15, zyv120, zyv120, zyv120, zyv120, zyv15, zyv120, zyv15, zyv15, zyv124, zyv17, zyv319, zyv352, zyv17, zyv120, zyv120, zyv120, zyv15, zyv36, zyv127, zyv120, zyv15, zyv120, zyv120, zyv15, zyv15, zyv120, zyv120, zyv120, zyv120, zyv120, zyv120, zyv120, zyv120, zyv120, zyv120, zyv15, zyv120, zyv120, zyv120, zyv120, zyv15, zyv15, zyv15, zyv15, zyv120, zyv120, zyv120])
noncomputable def zyr398 : List zC := [zyc248, zyc248, zyc248, zyc240, zyc10, zyc10, zyc10, zyc12, zyc241, zyc8, zyc8, zyc241, zyc8, zyc8, zyc469, zyc250]
noncomputable def zyh569 : zH := (126, [zyr178, zyr179, zyr180, zyr181, zyr182, zyr398, zyr184, zyr185], zym11)
noncomputable def zyh570 : zH := (126, [zyr178, zyr179, zyr180, zyr181, zyr182, zyr369, zyr184, zyr185], zym11)
noncomputable def zyh571 : zH := (126, [zyr178, zyr179, zyr180, zyr181, zyr182, zyr368, zyr184, zyr185], zym11)
noncomputable def zyc470 : zC := .inr (8, [zyv120, zyv15, zyv15, zyv15, zyv120, zyv120, zyv120, zyv120, zyv15, zyv120, zyv15, zyv15, zyv124, zyv17, zyv319, zyv351, zyv17, zyv120, zyv120, zyv120, zyv15, zyv36, zyv127, zyv120, zyv15, zyv120, zyv120, zyv15, zyv15, zyv120, zyv120, zyv120, zyv120, zyv120, zyv120, zyv120, zyv120, zyv120, zyv120, zyv15, zyv120, zyv120, zyv120, zyv120, zyv15, zyv15, zyv15, zyv15, zyv120, zyv120, zyv120])
noncomputable def zyr399 : List zC := [zyc248, zyc248, zyc248, zyc240, zyc10, zyc10, zyc10, zyc12, zyc241, zyc8, zyc8, zyc241, zyc8, zyc8, zyc470, zyc250]
noncomputable def zyh572 : zH := (126, [zyr178, zyr179, zyr180, zyr181, zyr182, zyr399, zyr184, zyr185], zym11)
noncomputable def zyh573 : zH := (126, [zyr178, zyr179, zyr180, zyr181, zyr182, zyr367, zyr184, zyr185], zym11)
noncomputable def zyh574 : zH := (126, [zyr178, zyr179, zyr180, zyr181, zyr182, zyr366, zyr184, zyr185], zym11)
noncomputable def zyc471 : zC := .inr (8, [zyv120, zyv15, zyv15, zyv15, zyv120, zyv120, zyv120, zyv120, zyv15, zyv120, zyv15, zyv15, zyv124, zyv17, zyv319, zyv350, zyv17, zyv120, zyv120, zyv120, zyv15, zyv36, zyv127, zyv120, zyv15, zyv120, zyv120, zyv15, zyv15, zyv120, zyv120, zyv120, zyv120, zyv120, zyv120, zyv120, zyv120, zyv120, zyv120, zyv15, zyv120, zyv120, zyv120, zyv120, zyv15, zyv15, zyv15, zyv15, zyv120, zyv120, zyv120])
noncomputable def zyr400 : List zC := [zyc248, zyc248, zyc248, zyc240, zyc10, zyc10, zyc10, zyc12, zyc241, zyc8, zyc8, zyc241, zyc8, zyc8, zyc471, zyc250]
noncomputable def zyh575 : zH := (126, [zyr178, zyr179, zyr180, zyr181, zyr182, zyr400, zyr184, zyr185], zym11)
noncomputable def zyh576 : zH := (126, [zyr178, zyr179, zyr180, zyr181, zyr182, zyr365, zyr184, zyr185], zym11)
noncomputable def zyh577 : zH := (126, [zyr178, zyr179, zyr180, zyr181, zyr182, zyr364, zyr184, zyr185], zym11)
noncomputable def zyc472 : zC := .inr (8, [zyv120, zyv15, zyv15, zyv15, zyv120, zyv120, zyv120, zyv120, zyv15, zyv120, zyv15, zyv15, zyv124, zyv17, zyv319, zyv349, zyv17, zyv120, zyv120, zyv120, zyv15, zyv36, zyv127, zyv120, zyv15, zyv120, zyv120, zyv15, zyv15, zyv120, zyv120, zyv120, zyv120, zyv120, zyv120, zyv120, zyv120, zyv120, zyv120, zyv15, zyv120, zyv120, zyv120, zyv120, zyv15, zyv15, zyv15, zyv15, zyv120, zyv120, zyv120])
noncomputable def zyr401 : List zC := [zyc248, zyc248, zyc248, zyc240, zyc10, zyc10, zyc10, zyc12, zyc241, zyc8, zyc8, zyc241, zyc8, zyc8, zyc472, zyc250]
noncomputable def zyh578 : zH := (126, [zyr178, zyr179, zyr180, zyr181, zyr182, zyr401, zyr184, zyr185], zym11)
noncomputable def zyh579 : zH := (126, [zyr178, zyr179, zyr180, zyr181, zyr182, zyr363, zyr184, zyr185], zym11)
noncomputable def zyh580 : zH := (126, [zyr178, zyr179, zyr180, zyr181, zyr182, zyr362, zyr184, zyr185], zym11)
noncomputable def zyc473 : zC := .inr (8, [zyv120, zyv15, zyv15, zyv15, zyv120, zyv120, zyv120, zyv120, zyv15, zyv120, zyv15, zyv15, zyv124, zyv17, zyv319, zyv348, zyv17, zyv120, zyv120, zyv120, zyv15, zyv36, zyv127, zyv120, zyv15, zyv120, zyv120, zyv15, zyv15, zyv120, zyv120, zyv120, zyv120, zyv120, zyv120, zyv120, zyv120, zyv120, zyv120, zyv15, zyv120, zyv120, zyv120, zyv120, zyv15, zyv15, zyv15, zyv15, zyv120, zyv120, zyv120])
noncomputable def zyr402 : List zC := [zyc248, zyc248, zyc248, zyc240, zyc10, zyc10, zyc10, zyc12, zyc241, zyc8, zyc8, zyc241, zyc8, zyc8, zyc473, zyc250]
noncomputable def zyh581 : zH := (126, [zyr178, zyr179, zyr180, zyr181, zyr182, zyr402, zyr184, zyr185], zym11)
noncomputable def zyh582 : zH := (126, [zyr178, zyr179, zyr180, zyr181, zyr182, zyr361, zyr184, zyr185], zym11)
noncomputable def zyh583 : zH := (126, [zyr178, zyr179, zyr180, zyr181, zyr182, zyr360, zyr184, zyr185], zym11)
noncomputable def zyc474 : zC := .inr (8, [zyv120, zyv15, zyv15, zyv15, zyv120, zyv120, zyv120, zyv120, zyv15, zyv120, zyv15, zyv15, zyv124, zyv17, zyv319, zyv347, zyv17, zyv120, zyv120, zyv120, zyv15, zyv36, zyv127, zyv120, zyv15, zyv120, zyv120, zyv15, zyv15, zyv120, zyv120, zyv120, zyv120, zyv120, zyv120, zyv120, zyv120, zyv120, zyv120, zyv15, zyv120, zyv120, zyv120, zyv120, zyv15, zyv15, zyv15, zyv15, zyv120, zyv120, zyv120])
noncomputable def zyr403 : List zC := [zyc248, zyc248, zyc248, zyc240, zyc10, zyc10, zyc10, zyc12, zyc241, zyc8, zyc8, zyc241, zyc8, zyc8, zyc474, zyc250]
noncomputable def zyh584 : zH := (126, [zyr178, zyr179, zyr180, zyr181, zyr182, zyr403, zyr184, zyr185], zym11)
noncomputable def zyh585 : zH := (126, [zyr178, zyr179, zyr180, zyr181, zyr182, zyr359, zyr184, zyr185], zym11)
noncomputable def zyh586 : zH := (126, [zyr178, zyr179, zyr180, zyr181, zyr182, zyr358, zyr184, zyr185], zym11)
noncomputable def zyc475 : zC := .inr (8, [zyv120, zyv15, zyv15, zyv15, zyv120, zyv120, zyv120, zyv120, zyv15, zyv120, zyv15, zyv15, zyv124, zyv17, zyv319, zyv346, zyv17, zyv120, zyv120, zyv120, zyv15, zyv36, zyv127, zyv120, zyv15, zyv120, zyv120, zyv15, zyv15, zyv120, zyv120, zyv120, zyv120, zyv120, zyv120, zyv120, zyv120, zyv120, zyv120, zyv15, zyv120, zyv120, zyv120, zyv120, zyv15, zyv15, zyv15, zyv15, zyv120, zyv120, zyv120])
noncomputable def zyr404 : List zC := [zyc248, zyc248, zyc248, zyc240, zyc10, zyc10, zyc10, zyc12, zyc241, zyc8, zyc8, zyc241, zyc8, zyc8, zyc475, zyc250]
noncomputable def zyh587 : zH := (126, [zyr178, zyr179, zyr180, zyr181, zyr182, zyr404, zyr184, zyr185], zym11)
noncomputable def zyh588 : zH := (126, [zyr178, zyr179, zyr180, zyr181, zyr182, zyr357, zyr184, zyr185], zym11)
noncomputable def zyh589 : zH := (126, [zyr178, zyr179, zyr180, zyr181, zyr182, zyr356, zyr184, zyr185], zym11)
noncomputable def zyc476 : zC := .inr (8, [zyv120, zyv15, zyv15, zyv15, zyv120, zyv120, zyv120, zyv120, zyv15, zyv120, zyv15, zyv15, zyv124, zyv17, zyv319, zyv345, zyv17, zyv120, zyv120, zyv120, zyv15, zyv36, zyv127, zyv120, zyv15, zyv120, zyv120, zyv15, zyv15, zyv120, zyv120, zyv120, zyv120, zyv120, zyv120, zyv120, zyv120, zyv120, zyv120, zyv15, zyv120, zyv120, zyv120, zyv120, zyv15, zyv15, zyv15, zyv15, zyv120, zyv120, zyv120])
noncomputable def zyr405 : List zC := [zyc248, zyc248, zyc248, zyc240, zyc10, zyc10, zyc10, zyc12, zyc241, zyc8, zyc8, zyc241, zyc8, zyc8, zyc476, zyc250]
noncomputable def zyh590 : zH := (126, [zyr178, zyr179, zyr180, zyr181, zyr182, zyr405, zyr184, zyr185], zym11)
noncomputable def zyh591 : zH := (126, [zyr178, zyr179, zyr180, zyr181, zyr182, zyr355, zyr184, zyr185], zym11)
noncomputable def zyh592 : zH := (126, [zyr178, zyr179, zyr180, zyr181, zyr182, zyr354, zyr184, zyr185], zym11)
noncomputable def zyc477 : zC := .inr (8, [zyv120, zyv15, zyv15, zyv15, zyv120, zyv120, zyv120, zyv120, zyv15, zyv120, zyv15, zyv15, zyv124, zyv17, zyv319, zyv344, zyv17, zyv120, zyv120, zyv120, zyv15, zyv36, zyv127, zyv120, zyv15, zyv120, zyv120, zyv15, zyv15, zyv120, zyv120, zyv120, zyv120, zyv120, zyv120, zyv120, zyv120, zyv120, zyv120, zyv15, zyv120, zyv120, zyv120, zyv120, zyv15, zyv15, zyv15, zyv15, zyv120, zyv120, zyv120])
noncomputable def zyr406 : List zC := [zyc248, zyc248, zyc248, zyc240, zyc10, zyc10, zyc10, zyc12, zyc241, zyc8, zyc8, zyc241, zyc8, zyc8, zyc477, zyc250]
noncomputable def zyh593 : zH := (126, [zyr178, zyr179, zyr180, zyr181, zyr182, zyr406, zyr184, zyr185], zym11)
noncomputable def zyh594 : zH := (126, [zyr178, zyr179, zyr180, zyr181, zyr182, zyr353, zyr184, zyr185], zym11)
noncomputable def zyh595 : zH := (126, [zyr178, zyr179, zyr180, zyr181, zyr182, zyr352, zyr184, zyr185], zym11)
noncomputable def zyc478 : zC := .inr (8, [zyv120, zyv15, zyv15, zyv15, zyv120, zyv120, zyv120, zyv120, zyv15, zyv120, zyv15, zyv15, zyv124, zyv17, zyv319, zyv343, zyv17, zyv120, zyv120, zyv120, zyv15, zyv36, zyv127, zyv120, zyv15, zyv120, zyv120, zyv15, zyv15, zyv120, zyv120, zyv120, zyv120, zyv120, zyv120, zyv120, zyv120, zyv120, zyv120, zyv15, zyv120, zyv120, zyv120, zyv120, zyv15, zyv15, zyv15, zyv15, zyv120, zyv120, zyv120])
noncomputable def zyr407 : List zC := [zyc248, zyc248, zyc248, zyc240, zyc10, zyc10, zyc10, zyc12, zyc241, zyc8, zyc8, zyc241, zyc8, zyc8, zyc478, zyc250]
noncomputable def zyh596 : zH := (126, [zyr178, zyr179, zyr180, zyr181, zyr182, zyr407, zyr184, zyr185], zym11)
noncomputable def zyh597 : zH := (126, [zyr178, zyr179, zyr180, zyr181, zyr182, zyr351, zyr184, zyr185], zym11)
noncomputable def zyh598 : zH := (126, [zyr178, zyr179, zyr180, zyr181, zyr182, zyr350, zyr184, zyr185], zym11)
/-! X8_sum ((('r', 102), 40, 31),) -/
noncomputable def zyx397a : List zAV := [.inr (.inr (.inl 94)), .inl ((.ofNat 1, .ofNat 4), none)]
def zyx397r : Option zAV := some (.inl ((.negSucc 2147483647, .ofNat 2147483647), none))
noncomputable def zyx397q : zPw := ((6, ([(0, .inr (.inr (.inl 94))), (1, .inl ((.ofNat 0, .ofNat 4), some (1, .ofNat 0))), (2, .inl ((.negSucc 2147483647, .ofNat 2147483647), some (2, .ofNat 0)))], [], zyh568, 0, 0), [], 0), (zyx397r, zyh568), 42, 5100)
set_option maxRecDepth 100000 in
theorem zyx397c : zchkX [(94, 15)] zprog2 (zovW [zyx396d, zyx390d]) 100000 kX8_sum [zyx391q, zyx385q, zyx379q, zyx373q, zyx367q, zyx361q, zyx355q, zyx349q, zyx343q] [zyx397q] [zyx397q] = true := by decide +kernel
theorem zyx397k {l : Launch} {D : va_G} {tys : List (ClassId × FieldType)} {o : zO} {z : Nat} (E : zEnv tys) : zPtOk l D vwCl tys o z (zXX o z) zTs mX8_sum zyx397q := zkn_pt E (fun g => List.forall_mem_cons.mpr ⟨zyx396 (o := zwith o g) E, List.forall_mem_cons.mpr ⟨zyx390 (o := zwith o g) E, fun _ h => absurd h List.not_mem_nil⟩⟩) (show zget zprog2 284 = some mX8_sum from rfl) (List.forall_mem_cons.mpr ⟨zyx391k E, List.forall_mem_cons.mpr ⟨zyx385k E, List.forall_mem_cons.mpr ⟨zyx379k E, List.forall_mem_cons.mpr ⟨zyx373k E, List.forall_mem_cons.mpr ⟨zyx367k E, List.forall_mem_cons.mpr ⟨zyx361k E, List.forall_mem_cons.mpr ⟨zyx355k E, List.forall_mem_cons.mpr ⟨zyx349k E, List.forall_mem_cons.mpr ⟨zyx343k E, fun _ h => absurd h List.not_mem_nil⟩⟩⟩⟩⟩⟩⟩⟩⟩) zyx397c _ List.mem_cons_self
noncomputable def zyx397d : zKw := (284, 5, 42, 5100, zyx397a, zyh513, [(zyx397r, zyh568)])
set_option maxRecDepth 100000 in
theorem zyx397e : zrunw zprog2 (zovW [zyx396d, zyx390d]) 100000 (zcutW [(94, 15)] none ((zyx397r, zyh568), 42, 5100) [zyx397q, zyx391q, zyx385q, zyx379q, zyx373q, zyx367q, zyx361q, zyx355q, zyx349q, zyx343q]) 42 5100 kX8_sum (zkin zyx397r zyh568) 0 (zargs 0 zyx397a, [], (zyh513.1, zyh513.2.1, 0), 0, 0) = true := by decide +kernel
theorem zyx397 {l : Launch} {D : va_G} {tys : List (ClassId × FieldType)} {o : zO} {z : Nat} (E : zEnv tys) : zKnW l D vwCl tys o z (zXX o z) zTs zprog2 zyx397d :=
  zkn_mk E (fun g => List.forall_mem_cons.mpr ⟨zyx396 (o := zwith o g) E, List.forall_mem_cons.mpr ⟨zyx390 (o := zwith o g) E, fun _ h => absurd h List.not_mem_nil⟩⟩) (show zget zprog2 284 = some mX8_sum from rfl) rfl (by decide) (by decide) (by decide) (by decide) (G := [zyx397q, zyx391q, zyx385q, zyx379q, zyx373q, zyx367q, zyx361q, zyx355q, zyx349q, zyx343q]) (List.forall_mem_cons.mpr ⟨zyx397k E, List.forall_mem_cons.mpr ⟨zyx391k E, List.forall_mem_cons.mpr ⟨zyx385k E, List.forall_mem_cons.mpr ⟨zyx379k E, List.forall_mem_cons.mpr ⟨zyx373k E, List.forall_mem_cons.mpr ⟨zyx367k E, List.forall_mem_cons.mpr ⟨zyx361k E, List.forall_mem_cons.mpr ⟨zyx355k E, List.forall_mem_cons.mpr ⟨zyx349k E, List.forall_mem_cons.mpr ⟨zyx343k E, fun _ h => absurd h List.not_mem_nil⟩⟩⟩⟩⟩⟩⟩⟩⟩⟩) zyx397e
/-! X8_heldBy -/
noncomputable def zyx398a : List zAV := [.inr (.inr (.inl 94)), .inl ((.ofNat 1, .ofNat 4), none)]
def zyx398r : Option zAV := some (.inl ((.negSucc 2147483647, .ofNat 2147483647), none))
noncomputable def zyx398p : List zPw := []
noncomputable def zyx398d : zKw := (229, 3, 43, 5220, zyx398a, zyh513, [(zyx398r, zyh568)])
set_option maxRecDepth 100000 in
theorem zyx398e : zrunw zprog2 (zovW [zyx397d, zyx391d, zyx331d]) 100000 (zcutW [] none ((zyx398r, zyh568), 43, 5220) zyx398p) 43 5220 kX8_heldBy (zkin zyx398r zyh568) 0 (zargs 0 zyx398a, [], (zyh513.1, zyh513.2.1, 0), 0, 0) = true := by decide +kernel
theorem zyx398 {l : Launch} {D : va_G} {tys : List (ClassId × FieldType)} {o : zO} {z : Nat} (E : zEnv tys) : zKnW l D vwCl tys o z (zXX o z) zTs zprog2 zyx398d :=
  zkn_mk E (fun g => List.forall_mem_cons.mpr ⟨zyx397 (o := zwith o g) E, List.forall_mem_cons.mpr ⟨zyx391 (o := zwith o g) E, List.forall_mem_cons.mpr ⟨zyx331 (o := zwith o g) E, fun _ h => absurd h List.not_mem_nil⟩⟩⟩) (show zget zprog2 229 = some mX8_heldBy from rfl) rfl (by decide) (by decide) (by decide) (by decide) (G := zyx398p) (fun _ h => absurd h List.not_mem_nil) zyx398e
/-! X8_oneOf -/
noncomputable def zyx399a : List zAV := [zyv320, zyv362, zyv363]
noncomputable def zyx399q : List (Option zAV × zH) := [(some (.inl ((.ofNat 0, .ofNat 0), none)), zyh569), (some (.inl ((.negSucc 175, .ofNat 79), none)), zyh570)]
noncomputable def zyx399d : zKw := (260, 3, 4, 480, zyx399a, zyh510, zyx399q)
set_option maxRecDepth 100000 in
theorem zyx399e : zrunw zprog2 (zovW []) 100000 zcut0 4 480 kX8_oneOf (zkinL zyx399q) 0 (zargs 0 zyx399a, [], (zyh510.1, zyh510.2.1, 0), 0, 0) = true := by decide +kernel
theorem zyx399 {l : Launch} {D : va_G} {tys : List (ClassId × FieldType)} {o : zO} {z : Nat} (E : zEnv tys) : zKnW l D vwCl tys o z (zXX o z) zTs zprog2 zyx399d :=
  zkn_ml E (fun g => fun _ h => absurd h List.not_mem_nil) (show zget zprog2 260 = some mX8_oneOf from rfl) rfl (by decide) (by decide) (by decide) (by decide) zyx399e
/-! X8_number -/
noncomputable def zyx400a : List zAV := [.inr (.inr (.inl 94)), .inl ((.ofNat 3, .ofNat 3), none)]
def zyx400r : Option zAV := some (.inl ((.negSucc 2147483647, .ofNat 2147483647), none))
noncomputable def zyx400p : List zPw := [((11, ([(0, .inr (.inr (.inl 94))), (1, .inl ((.ofNat 3, .ofNat 3), some (1, .ofNat 0))), (2, .inl ((.negSucc 2147483647, .ofNat 2147483647), some (2, .ofNat 0))), (3, .inl ((.ofNat 1, .ofNat 3), some (3, .ofNat 0)))], [], zyh571, 0, 0), [(3, .negSucc 1)], .ofNat 7), (zyx400r, zyh571), 5, 600)]
noncomputable def zyx400d : zKw := (259, 4, 5, 600, zyx400a, zyh510, [(zyx400r, zyh571)])
set_option maxRecDepth 100000 in
theorem zyx400c : zchkX [] zprog2 (zovW [zyx399d]) 100000 kX8_number [] zyx400p zyx400p = true := by decide +kernel
set_option maxRecDepth 100000 in
theorem zyx400e : zrunw zprog2 (zovW [zyx399d]) 100000 (zcutW [] none ((zyx400r, zyh571), 5, 600) zyx400p) 5 600 kX8_number (zkin zyx400r zyh571) 0 (zargs 0 zyx400a, [], (zyh510.1, zyh510.2.1, 0), 0, 0) = true := by decide +kernel
theorem zyx400 {l : Launch} {D : va_G} {tys : List (ClassId × FieldType)} {o : zO} {z : Nat} (E : zEnv tys) : zKnW l D vwCl tys o z (zXX o z) zTs zprog2 zyx400d :=
  zkn_mk E (fun g => List.forall_mem_cons.mpr ⟨zyx399 (o := zwith o g) E, fun _ h => absurd h List.not_mem_nil⟩) (show zget zprog2 259 = some mX8_number from rfl) rfl (by decide) (by decide) (by decide) (by decide) (G := zyx400p) (zkn_pt E (fun g => List.forall_mem_cons.mpr ⟨zyx399 (o := zwith o g) E, fun _ h => absurd h List.not_mem_nil⟩) (show zget zprog2 259 = some mX8_number from rfl) (fun _ h => absurd h List.not_mem_nil) zyx400c) zyx400e
/-! X8_thing -/
noncomputable def zyx401a : List zAV := [.inr (.inr (.inl 94)), .inl ((.ofNat 0, .ofNat 4), none)]
def zyx401r : Option zAV := some (.inl ((.negSucc 2147483647, .ofNat 2147483647), none))
noncomputable def zyx401p : List zPw := []
noncomputable def zyx401d : zKw := (292, 4, 44, 5340, zyx401a, zyh510, [(zyx401r, zyh571)])
set_option maxRecDepth 100000 in
theorem zyx401e : zrunw zprog2 (zovW [zyx400d, zyx398d, zyx395d, zyx330d, zyx331d]) 100000 (zcutW [] none ((zyx401r, zyh571), 44, 5340) zyx401p) 44 5340 k2X8_thing (zkin zyx401r zyh571) 0 (zargs 0 zyx401a, [], (zyh510.1, zyh510.2.1, 0), 0, 0) = true := by decide +kernel
theorem zyx401 {l : Launch} {D : va_G} {tys : List (ClassId × FieldType)} {o : zO} {z : Nat} (E : zEnv tys) : zKnW l D vwCl tys o z (zXX o z) zTs zprog2 zyx401d :=
  zkn_mk E (fun g => List.forall_mem_cons.mpr ⟨zyx400 (o := zwith o g) E, List.forall_mem_cons.mpr ⟨zyx398 (o := zwith o g) E, List.forall_mem_cons.mpr ⟨zyx395 (o := zwith o g) E, List.forall_mem_cons.mpr ⟨zyx330 (o := zwith o g) E, List.forall_mem_cons.mpr ⟨zyx331 (o := zwith o g) E, fun _ h => absurd h List.not_mem_nil⟩⟩⟩⟩⟩) (show zget zprog2 292 = some m2X8_thing from rfl) rfl (by decide) (by decide) (by decide) (by decide) (G := zyx401p) (fun _ h => absurd h List.not_mem_nil) zyx401e
/-! X8_product ((('r', 102), 40, 30),) -/
noncomputable def zyx402a : List zAV := [.inr (.inr (.inl 94)), .inl ((.ofNat 0, .ofNat 4), none)]
def zyx402r : Option zAV := some (.inl ((.negSucc 2147483647, .ofNat 2147483647), none))
noncomputable def zyx402q : zPw := ((6, ([(0, .inr (.inr (.inl 94))), (1, .inl ((.ofNat 0, .ofNat 4), some (1, .ofNat 0))), (2, .inl ((.negSucc 2147483647, .ofNat 2147483647), some (2, .ofNat 0)))], [], zyh571, 0, 0), [], 0), (zyx402r, zyh571), 45, 5460)
set_option maxRecDepth 100000 in
theorem zyx402c : zchkX [(94, 15)] zprog2 (zovW [zyx401d, zyx395d]) 100000 k2X8_product [zyx396q, zyx390q, zyx384q, zyx378q, zyx372q, zyx366q, zyx360q, zyx354q, zyx348q, zyx342q] [zyx402q] [zyx402q] = true := by decide +kernel
theorem zyx402k {l : Launch} {D : va_G} {tys : List (ClassId × FieldType)} {o : zO} {z : Nat} (E : zEnv tys) : zPtOk l D vwCl tys o z (zXX o z) zTs m2X8_product zyx402q := zkn_pt E (fun g => List.forall_mem_cons.mpr ⟨zyx401 (o := zwith o g) E, List.forall_mem_cons.mpr ⟨zyx395 (o := zwith o g) E, fun _ h => absurd h List.not_mem_nil⟩⟩) (show zget zprog2 265 = some m2X8_product from rfl) (List.forall_mem_cons.mpr ⟨zyx396k E, List.forall_mem_cons.mpr ⟨zyx390k E, List.forall_mem_cons.mpr ⟨zyx384k E, List.forall_mem_cons.mpr ⟨zyx378k E, List.forall_mem_cons.mpr ⟨zyx372k E, List.forall_mem_cons.mpr ⟨zyx366k E, List.forall_mem_cons.mpr ⟨zyx360k E, List.forall_mem_cons.mpr ⟨zyx354k E, List.forall_mem_cons.mpr ⟨zyx348k E, List.forall_mem_cons.mpr ⟨zyx342k E, fun _ h => absurd h List.not_mem_nil⟩⟩⟩⟩⟩⟩⟩⟩⟩⟩) zyx402c _ List.mem_cons_self
noncomputable def zyx402d : zKw := (265, 5, 45, 5460, zyx402a, zyh510, [(zyx402r, zyh571)])
set_option maxRecDepth 100000 in
theorem zyx402e : zrunw zprog2 (zovW [zyx401d, zyx395d]) 100000 (zcutW [(94, 15)] none ((zyx402r, zyh571), 45, 5460) [zyx402q, zyx396q, zyx390q, zyx384q, zyx378q, zyx372q, zyx366q, zyx360q, zyx354q, zyx348q, zyx342q]) 45 5460 k2X8_product (zkin zyx402r zyh571) 0 (zargs 0 zyx402a, [], (zyh510.1, zyh510.2.1, 0), 0, 0) = true := by decide +kernel
theorem zyx402 {l : Launch} {D : va_G} {tys : List (ClassId × FieldType)} {o : zO} {z : Nat} (E : zEnv tys) : zKnW l D vwCl tys o z (zXX o z) zTs zprog2 zyx402d :=
  zkn_mk E (fun g => List.forall_mem_cons.mpr ⟨zyx401 (o := zwith o g) E, List.forall_mem_cons.mpr ⟨zyx395 (o := zwith o g) E, fun _ h => absurd h List.not_mem_nil⟩⟩) (show zget zprog2 265 = some m2X8_product from rfl) rfl (by decide) (by decide) (by decide) (by decide) (G := [zyx402q, zyx396q, zyx390q, zyx384q, zyx378q, zyx372q, zyx366q, zyx360q, zyx354q, zyx348q, zyx342q]) (List.forall_mem_cons.mpr ⟨zyx402k E, List.forall_mem_cons.mpr ⟨zyx396k E, List.forall_mem_cons.mpr ⟨zyx390k E, List.forall_mem_cons.mpr ⟨zyx384k E, List.forall_mem_cons.mpr ⟨zyx378k E, List.forall_mem_cons.mpr ⟨zyx372k E, List.forall_mem_cons.mpr ⟨zyx366k E, List.forall_mem_cons.mpr ⟨zyx360k E, List.forall_mem_cons.mpr ⟨zyx354k E, List.forall_mem_cons.mpr ⟨zyx348k E, List.forall_mem_cons.mpr ⟨zyx342k E, fun _ h => absurd h List.not_mem_nil⟩⟩⟩⟩⟩⟩⟩⟩⟩⟩⟩) zyx402e
/-! X8_sum ((('r', 102), 40, 30),) -/
noncomputable def zyx403a : List zAV := [.inr (.inr (.inl 94)), .inl ((.ofNat 1, .ofNat 4), none)]
def zyx403r : Option zAV := some (.inl ((.negSucc 2147483647, .ofNat 2147483647), none))
noncomputable def zyx403q : zPw := ((6, ([(0, .inr (.inr (.inl 94))), (1, .inl ((.ofNat 0, .ofNat 4), some (1, .ofNat 0))), (2, .inl ((.negSucc 2147483647, .ofNat 2147483647), some (2, .ofNat 0)))], [], zyh571, 0, 0), [], 0), (zyx403r, zyh571), 46, 5580)
set_option maxRecDepth 100000 in
theorem zyx403c : zchkX [(94, 15)] zprog2 (zovW [zyx402d, zyx396d]) 100000 kX8_sum [zyx397q, zyx391q, zyx385q, zyx379q, zyx373q, zyx367q, zyx361q, zyx355q, zyx349q, zyx343q] [zyx403q] [zyx403q] = true := by decide +kernel
theorem zyx403k {l : Launch} {D : va_G} {tys : List (ClassId × FieldType)} {o : zO} {z : Nat} (E : zEnv tys) : zPtOk l D vwCl tys o z (zXX o z) zTs mX8_sum zyx403q := zkn_pt E (fun g => List.forall_mem_cons.mpr ⟨zyx402 (o := zwith o g) E, List.forall_mem_cons.mpr ⟨zyx396 (o := zwith o g) E, fun _ h => absurd h List.not_mem_nil⟩⟩) (show zget zprog2 284 = some mX8_sum from rfl) (List.forall_mem_cons.mpr ⟨zyx397k E, List.forall_mem_cons.mpr ⟨zyx391k E, List.forall_mem_cons.mpr ⟨zyx385k E, List.forall_mem_cons.mpr ⟨zyx379k E, List.forall_mem_cons.mpr ⟨zyx373k E, List.forall_mem_cons.mpr ⟨zyx367k E, List.forall_mem_cons.mpr ⟨zyx361k E, List.forall_mem_cons.mpr ⟨zyx355k E, List.forall_mem_cons.mpr ⟨zyx349k E, List.forall_mem_cons.mpr ⟨zyx343k E, fun _ h => absurd h List.not_mem_nil⟩⟩⟩⟩⟩⟩⟩⟩⟩⟩) zyx403c _ List.mem_cons_self
noncomputable def zyx403d : zKw := (284, 5, 46, 5580, zyx403a, zyh510, [(zyx403r, zyh571)])
set_option maxRecDepth 100000 in
theorem zyx403e : zrunw zprog2 (zovW [zyx402d, zyx396d]) 100000 (zcutW [(94, 15)] none ((zyx403r, zyh571), 46, 5580) [zyx403q, zyx397q, zyx391q, zyx385q, zyx379q, zyx373q, zyx367q, zyx361q, zyx355q, zyx349q, zyx343q]) 46 5580 kX8_sum (zkin zyx403r zyh571) 0 (zargs 0 zyx403a, [], (zyh510.1, zyh510.2.1, 0), 0, 0) = true := by decide +kernel
theorem zyx403 {l : Launch} {D : va_G} {tys : List (ClassId × FieldType)} {o : zO} {z : Nat} (E : zEnv tys) : zKnW l D vwCl tys o z (zXX o z) zTs zprog2 zyx403d :=
  zkn_mk E (fun g => List.forall_mem_cons.mpr ⟨zyx402 (o := zwith o g) E, List.forall_mem_cons.mpr ⟨zyx396 (o := zwith o g) E, fun _ h => absurd h List.not_mem_nil⟩⟩) (show zget zprog2 284 = some mX8_sum from rfl) rfl (by decide) (by decide) (by decide) (by decide) (G := [zyx403q, zyx397q, zyx391q, zyx385q, zyx379q, zyx373q, zyx367q, zyx361q, zyx355q, zyx349q, zyx343q]) (List.forall_mem_cons.mpr ⟨zyx403k E, List.forall_mem_cons.mpr ⟨zyx397k E, List.forall_mem_cons.mpr ⟨zyx391k E, List.forall_mem_cons.mpr ⟨zyx385k E, List.forall_mem_cons.mpr ⟨zyx379k E, List.forall_mem_cons.mpr ⟨zyx373k E, List.forall_mem_cons.mpr ⟨zyx367k E, List.forall_mem_cons.mpr ⟨zyx361k E, List.forall_mem_cons.mpr ⟨zyx355k E, List.forall_mem_cons.mpr ⟨zyx349k E, List.forall_mem_cons.mpr ⟨zyx343k E, fun _ h => absurd h List.not_mem_nil⟩⟩⟩⟩⟩⟩⟩⟩⟩⟩⟩) zyx403e
/-! X8_heldBy -/
noncomputable def zyx404a : List zAV := [.inr (.inr (.inl 94)), .inl ((.ofNat 1, .ofNat 4), none)]
def zyx404r : Option zAV := some (.inl ((.negSucc 2147483647, .ofNat 2147483647), none))
noncomputable def zyx404p : List zPw := []
noncomputable def zyx404d : zKw := (229, 3, 47, 5700, zyx404a, zyh510, [(zyx404r, zyh571)])
set_option maxRecDepth 100000 in
theorem zyx404e : zrunw zprog2 (zovW [zyx403d, zyx397d, zyx330d]) 100000 (zcutW [] none ((zyx404r, zyh571), 47, 5700) zyx404p) 47 5700 kX8_heldBy (zkin zyx404r zyh571) 0 (zargs 0 zyx404a, [], (zyh510.1, zyh510.2.1, 0), 0, 0) = true := by decide +kernel
theorem zyx404 {l : Launch} {D : va_G} {tys : List (ClassId × FieldType)} {o : zO} {z : Nat} (E : zEnv tys) : zKnW l D vwCl tys o z (zXX o z) zTs zprog2 zyx404d :=
  zkn_mk E (fun g => List.forall_mem_cons.mpr ⟨zyx403 (o := zwith o g) E, List.forall_mem_cons.mpr ⟨zyx397 (o := zwith o g) E, List.forall_mem_cons.mpr ⟨zyx330 (o := zwith o g) E, fun _ h => absurd h List.not_mem_nil⟩⟩⟩) (show zget zprog2 229 = some mX8_heldBy from rfl) rfl (by decide) (by decide) (by decide) (by decide) (G := zyx404p) (fun _ h => absurd h List.not_mem_nil) zyx404e
/-! X8_oneOf -/
noncomputable def zyx405a : List zAV := [zyv320, zyv362, zyv363]
noncomputable def zyx405q : List (Option zAV × zH) := [(some (.inl ((.ofNat 0, .ofNat 0), none)), zyh572), (some (.inl ((.negSucc 175, .ofNat 79), none)), zyh573)]
noncomputable def zyx405d : zKw := (260, 3, 4, 480, zyx405a, zyh507, zyx405q)
set_option maxRecDepth 100000 in
theorem zyx405e : zrunw zprog2 (zovW []) 100000 zcut0 4 480 kX8_oneOf (zkinL zyx405q) 0 (zargs 0 zyx405a, [], (zyh507.1, zyh507.2.1, 0), 0, 0) = true := by decide +kernel
theorem zyx405 {l : Launch} {D : va_G} {tys : List (ClassId × FieldType)} {o : zO} {z : Nat} (E : zEnv tys) : zKnW l D vwCl tys o z (zXX o z) zTs zprog2 zyx405d :=
  zkn_ml E (fun g => fun _ h => absurd h List.not_mem_nil) (show zget zprog2 260 = some mX8_oneOf from rfl) rfl (by decide) (by decide) (by decide) (by decide) zyx405e
/-! X8_number -/
noncomputable def zyx406a : List zAV := [.inr (.inr (.inl 94)), .inl ((.ofNat 3, .ofNat 3), none)]
def zyx406r : Option zAV := some (.inl ((.negSucc 2147483647, .ofNat 2147483647), none))
noncomputable def zyx406p : List zPw := [((11, ([(0, .inr (.inr (.inl 94))), (1, .inl ((.ofNat 3, .ofNat 3), some (1, .ofNat 0))), (2, .inl ((.negSucc 2147483647, .ofNat 2147483647), some (2, .ofNat 0))), (3, .inl ((.ofNat 1, .ofNat 3), some (3, .ofNat 0)))], [], zyh574, 0, 0), [(3, .negSucc 1)], .ofNat 7), (zyx406r, zyh574), 5, 600)]
noncomputable def zyx406d : zKw := (259, 4, 5, 600, zyx406a, zyh507, [(zyx406r, zyh574)])
set_option maxRecDepth 100000 in
theorem zyx406c : zchkX [] zprog2 (zovW [zyx405d]) 100000 kX8_number [] zyx406p zyx406p = true := by decide +kernel
set_option maxRecDepth 100000 in
theorem zyx406e : zrunw zprog2 (zovW [zyx405d]) 100000 (zcutW [] none ((zyx406r, zyh574), 5, 600) zyx406p) 5 600 kX8_number (zkin zyx406r zyh574) 0 (zargs 0 zyx406a, [], (zyh507.1, zyh507.2.1, 0), 0, 0) = true := by decide +kernel
theorem zyx406 {l : Launch} {D : va_G} {tys : List (ClassId × FieldType)} {o : zO} {z : Nat} (E : zEnv tys) : zKnW l D vwCl tys o z (zXX o z) zTs zprog2 zyx406d :=
  zkn_mk E (fun g => List.forall_mem_cons.mpr ⟨zyx405 (o := zwith o g) E, fun _ h => absurd h List.not_mem_nil⟩) (show zget zprog2 259 = some mX8_number from rfl) rfl (by decide) (by decide) (by decide) (by decide) (G := zyx406p) (zkn_pt E (fun g => List.forall_mem_cons.mpr ⟨zyx405 (o := zwith o g) E, fun _ h => absurd h List.not_mem_nil⟩) (show zget zprog2 259 = some mX8_number from rfl) (fun _ h => absurd h List.not_mem_nil) zyx406c) zyx406e
/-! X8_thing -/
noncomputable def zyx407a : List zAV := [.inr (.inr (.inl 94)), .inl ((.ofNat 0, .ofNat 4), none)]
def zyx407r : Option zAV := some (.inl ((.negSucc 2147483647, .ofNat 2147483647), none))
noncomputable def zyx407p : List zPw := []
noncomputable def zyx407d : zKw := (292, 4, 48, 5820, zyx407a, zyh507, [(zyx407r, zyh574)])
set_option maxRecDepth 100000 in
theorem zyx407e : zrunw zprog2 (zovW [zyx406d, zyx404d, zyx401d, zyx329d, zyx330d]) 100000 (zcutW [] none ((zyx407r, zyh574), 48, 5820) zyx407p) 48 5820 k2X8_thing (zkin zyx407r zyh574) 0 (zargs 0 zyx407a, [], (zyh507.1, zyh507.2.1, 0), 0, 0) = true := by decide +kernel
theorem zyx407 {l : Launch} {D : va_G} {tys : List (ClassId × FieldType)} {o : zO} {z : Nat} (E : zEnv tys) : zKnW l D vwCl tys o z (zXX o z) zTs zprog2 zyx407d :=
  zkn_mk E (fun g => List.forall_mem_cons.mpr ⟨zyx406 (o := zwith o g) E, List.forall_mem_cons.mpr ⟨zyx404 (o := zwith o g) E, List.forall_mem_cons.mpr ⟨zyx401 (o := zwith o g) E, List.forall_mem_cons.mpr ⟨zyx329 (o := zwith o g) E, List.forall_mem_cons.mpr ⟨zyx330 (o := zwith o g) E, fun _ h => absurd h List.not_mem_nil⟩⟩⟩⟩⟩) (show zget zprog2 292 = some m2X8_thing from rfl) rfl (by decide) (by decide) (by decide) (by decide) (G := zyx407p) (fun _ h => absurd h List.not_mem_nil) zyx407e
/-! X8_product ((('r', 102), 40, 29),) -/
noncomputable def zyx408a : List zAV := [.inr (.inr (.inl 94)), .inl ((.ofNat 0, .ofNat 4), none)]
def zyx408r : Option zAV := some (.inl ((.negSucc 2147483647, .ofNat 2147483647), none))
noncomputable def zyx408q : zPw := ((6, ([(0, .inr (.inr (.inl 94))), (1, .inl ((.ofNat 0, .ofNat 4), some (1, .ofNat 0))), (2, .inl ((.negSucc 2147483647, .ofNat 2147483647), some (2, .ofNat 0)))], [], zyh574, 0, 0), [], 0), (zyx408r, zyh574), 49, 5940)
set_option maxRecDepth 100000 in
theorem zyx408c : zchkX [(94, 15)] zprog2 (zovW [zyx407d, zyx401d]) 100000 k2X8_product [zyx402q, zyx396q, zyx390q, zyx384q, zyx378q, zyx372q, zyx366q, zyx360q, zyx354q, zyx348q, zyx342q] [zyx408q] [zyx408q] = true := by decide +kernel
theorem zyx408k {l : Launch} {D : va_G} {tys : List (ClassId × FieldType)} {o : zO} {z : Nat} (E : zEnv tys) : zPtOk l D vwCl tys o z (zXX o z) zTs m2X8_product zyx408q := zkn_pt E (fun g => List.forall_mem_cons.mpr ⟨zyx407 (o := zwith o g) E, List.forall_mem_cons.mpr ⟨zyx401 (o := zwith o g) E, fun _ h => absurd h List.not_mem_nil⟩⟩) (show zget zprog2 265 = some m2X8_product from rfl) (List.forall_mem_cons.mpr ⟨zyx402k E, List.forall_mem_cons.mpr ⟨zyx396k E, List.forall_mem_cons.mpr ⟨zyx390k E, List.forall_mem_cons.mpr ⟨zyx384k E, List.forall_mem_cons.mpr ⟨zyx378k E, List.forall_mem_cons.mpr ⟨zyx372k E, List.forall_mem_cons.mpr ⟨zyx366k E, List.forall_mem_cons.mpr ⟨zyx360k E, List.forall_mem_cons.mpr ⟨zyx354k E, List.forall_mem_cons.mpr ⟨zyx348k E, List.forall_mem_cons.mpr ⟨zyx342k E, fun _ h => absurd h List.not_mem_nil⟩⟩⟩⟩⟩⟩⟩⟩⟩⟩⟩) zyx408c _ List.mem_cons_self
noncomputable def zyx408d : zKw := (265, 5, 49, 5940, zyx408a, zyh507, [(zyx408r, zyh574)])
set_option maxRecDepth 100000 in
theorem zyx408e : zrunw zprog2 (zovW [zyx407d, zyx401d]) 100000 (zcutW [(94, 15)] none ((zyx408r, zyh574), 49, 5940) [zyx408q, zyx402q, zyx396q, zyx390q, zyx384q, zyx378q, zyx372q, zyx366q, zyx360q, zyx354q, zyx348q, zyx342q]) 49 5940 k2X8_product (zkin zyx408r zyh574) 0 (zargs 0 zyx408a, [], (zyh507.1, zyh507.2.1, 0), 0, 0) = true := by decide +kernel
theorem zyx408 {l : Launch} {D : va_G} {tys : List (ClassId × FieldType)} {o : zO} {z : Nat} (E : zEnv tys) : zKnW l D vwCl tys o z (zXX o z) zTs zprog2 zyx408d :=
  zkn_mk E (fun g => List.forall_mem_cons.mpr ⟨zyx407 (o := zwith o g) E, List.forall_mem_cons.mpr ⟨zyx401 (o := zwith o g) E, fun _ h => absurd h List.not_mem_nil⟩⟩) (show zget zprog2 265 = some m2X8_product from rfl) rfl (by decide) (by decide) (by decide) (by decide) (G := [zyx408q, zyx402q, zyx396q, zyx390q, zyx384q, zyx378q, zyx372q, zyx366q, zyx360q, zyx354q, zyx348q, zyx342q]) (List.forall_mem_cons.mpr ⟨zyx408k E, List.forall_mem_cons.mpr ⟨zyx402k E, List.forall_mem_cons.mpr ⟨zyx396k E, List.forall_mem_cons.mpr ⟨zyx390k E, List.forall_mem_cons.mpr ⟨zyx384k E, List.forall_mem_cons.mpr ⟨zyx378k E, List.forall_mem_cons.mpr ⟨zyx372k E, List.forall_mem_cons.mpr ⟨zyx366k E, List.forall_mem_cons.mpr ⟨zyx360k E, List.forall_mem_cons.mpr ⟨zyx354k E, List.forall_mem_cons.mpr ⟨zyx348k E, List.forall_mem_cons.mpr ⟨zyx342k E, fun _ h => absurd h List.not_mem_nil⟩⟩⟩⟩⟩⟩⟩⟩⟩⟩⟩⟩) zyx408e
/-! X8_sum ((('r', 102), 40, 29),) -/
noncomputable def zyx409a : List zAV := [.inr (.inr (.inl 94)), .inl ((.ofNat 1, .ofNat 4), none)]
def zyx409r : Option zAV := some (.inl ((.negSucc 2147483647, .ofNat 2147483647), none))
noncomputable def zyx409q : zPw := ((6, ([(0, .inr (.inr (.inl 94))), (1, .inl ((.ofNat 0, .ofNat 4), some (1, .ofNat 0))), (2, .inl ((.negSucc 2147483647, .ofNat 2147483647), some (2, .ofNat 0)))], [], zyh574, 0, 0), [], 0), (zyx409r, zyh574), 50, 6060)
set_option maxRecDepth 100000 in
theorem zyx409c : zchkX [(94, 15)] zprog2 (zovW [zyx408d, zyx402d]) 100000 kX8_sum [zyx403q, zyx397q, zyx391q, zyx385q, zyx379q, zyx373q, zyx367q, zyx361q, zyx355q, zyx349q, zyx343q] [zyx409q] [zyx409q] = true := by decide +kernel
theorem zyx409k {l : Launch} {D : va_G} {tys : List (ClassId × FieldType)} {o : zO} {z : Nat} (E : zEnv tys) : zPtOk l D vwCl tys o z (zXX o z) zTs mX8_sum zyx409q := zkn_pt E (fun g => List.forall_mem_cons.mpr ⟨zyx408 (o := zwith o g) E, List.forall_mem_cons.mpr ⟨zyx402 (o := zwith o g) E, fun _ h => absurd h List.not_mem_nil⟩⟩) (show zget zprog2 284 = some mX8_sum from rfl) (List.forall_mem_cons.mpr ⟨zyx403k E, List.forall_mem_cons.mpr ⟨zyx397k E, List.forall_mem_cons.mpr ⟨zyx391k E, List.forall_mem_cons.mpr ⟨zyx385k E, List.forall_mem_cons.mpr ⟨zyx379k E, List.forall_mem_cons.mpr ⟨zyx373k E, List.forall_mem_cons.mpr ⟨zyx367k E, List.forall_mem_cons.mpr ⟨zyx361k E, List.forall_mem_cons.mpr ⟨zyx355k E, List.forall_mem_cons.mpr ⟨zyx349k E, List.forall_mem_cons.mpr ⟨zyx343k E, fun _ h => absurd h List.not_mem_nil⟩⟩⟩⟩⟩⟩⟩⟩⟩⟩⟩) zyx409c _ List.mem_cons_self
noncomputable def zyx409d : zKw := (284, 5, 50, 6060, zyx409a, zyh507, [(zyx409r, zyh574)])
set_option maxRecDepth 100000 in
theorem zyx409e : zrunw zprog2 (zovW [zyx408d, zyx402d]) 100000 (zcutW [(94, 15)] none ((zyx409r, zyh574), 50, 6060) [zyx409q, zyx403q, zyx397q, zyx391q, zyx385q, zyx379q, zyx373q, zyx367q, zyx361q, zyx355q, zyx349q, zyx343q]) 50 6060 kX8_sum (zkin zyx409r zyh574) 0 (zargs 0 zyx409a, [], (zyh507.1, zyh507.2.1, 0), 0, 0) = true := by decide +kernel
theorem zyx409 {l : Launch} {D : va_G} {tys : List (ClassId × FieldType)} {o : zO} {z : Nat} (E : zEnv tys) : zKnW l D vwCl tys o z (zXX o z) zTs zprog2 zyx409d :=
  zkn_mk E (fun g => List.forall_mem_cons.mpr ⟨zyx408 (o := zwith o g) E, List.forall_mem_cons.mpr ⟨zyx402 (o := zwith o g) E, fun _ h => absurd h List.not_mem_nil⟩⟩) (show zget zprog2 284 = some mX8_sum from rfl) rfl (by decide) (by decide) (by decide) (by decide) (G := [zyx409q, zyx403q, zyx397q, zyx391q, zyx385q, zyx379q, zyx373q, zyx367q, zyx361q, zyx355q, zyx349q, zyx343q]) (List.forall_mem_cons.mpr ⟨zyx409k E, List.forall_mem_cons.mpr ⟨zyx403k E, List.forall_mem_cons.mpr ⟨zyx397k E, List.forall_mem_cons.mpr ⟨zyx391k E, List.forall_mem_cons.mpr ⟨zyx385k E, List.forall_mem_cons.mpr ⟨zyx379k E, List.forall_mem_cons.mpr ⟨zyx373k E, List.forall_mem_cons.mpr ⟨zyx367k E, List.forall_mem_cons.mpr ⟨zyx361k E, List.forall_mem_cons.mpr ⟨zyx355k E, List.forall_mem_cons.mpr ⟨zyx349k E, List.forall_mem_cons.mpr ⟨zyx343k E, fun _ h => absurd h List.not_mem_nil⟩⟩⟩⟩⟩⟩⟩⟩⟩⟩⟩⟩) zyx409e
/-! X8_heldBy -/
noncomputable def zyx410a : List zAV := [.inr (.inr (.inl 94)), .inl ((.ofNat 1, .ofNat 4), none)]
def zyx410r : Option zAV := some (.inl ((.negSucc 2147483647, .ofNat 2147483647), none))
noncomputable def zyx410p : List zPw := []
noncomputable def zyx410d : zKw := (229, 3, 51, 6180, zyx410a, zyh507, [(zyx410r, zyh574)])
set_option maxRecDepth 100000 in
theorem zyx410e : zrunw zprog2 (zovW [zyx409d, zyx403d, zyx329d]) 100000 (zcutW [] none ((zyx410r, zyh574), 51, 6180) zyx410p) 51 6180 kX8_heldBy (zkin zyx410r zyh574) 0 (zargs 0 zyx410a, [], (zyh507.1, zyh507.2.1, 0), 0, 0) = true := by decide +kernel
theorem zyx410 {l : Launch} {D : va_G} {tys : List (ClassId × FieldType)} {o : zO} {z : Nat} (E : zEnv tys) : zKnW l D vwCl tys o z (zXX o z) zTs zprog2 zyx410d :=
  zkn_mk E (fun g => List.forall_mem_cons.mpr ⟨zyx409 (o := zwith o g) E, List.forall_mem_cons.mpr ⟨zyx403 (o := zwith o g) E, List.forall_mem_cons.mpr ⟨zyx329 (o := zwith o g) E, fun _ h => absurd h List.not_mem_nil⟩⟩⟩) (show zget zprog2 229 = some mX8_heldBy from rfl) rfl (by decide) (by decide) (by decide) (by decide) (G := zyx410p) (fun _ h => absurd h List.not_mem_nil) zyx410e
/-! X8_oneOf -/
noncomputable def zyx411a : List zAV := [zyv320, zyv362, zyv363]
noncomputable def zyx411q : List (Option zAV × zH) := [(some (.inl ((.ofNat 0, .ofNat 0), none)), zyh575), (some (.inl ((.negSucc 175, .ofNat 79), none)), zyh576)]
noncomputable def zyx411d : zKw := (260, 3, 4, 480, zyx411a, zyh504, zyx411q)
set_option maxRecDepth 100000 in
theorem zyx411e : zrunw zprog2 (zovW []) 100000 zcut0 4 480 kX8_oneOf (zkinL zyx411q) 0 (zargs 0 zyx411a, [], (zyh504.1, zyh504.2.1, 0), 0, 0) = true := by decide +kernel
theorem zyx411 {l : Launch} {D : va_G} {tys : List (ClassId × FieldType)} {o : zO} {z : Nat} (E : zEnv tys) : zKnW l D vwCl tys o z (zXX o z) zTs zprog2 zyx411d :=
  zkn_ml E (fun g => fun _ h => absurd h List.not_mem_nil) (show zget zprog2 260 = some mX8_oneOf from rfl) rfl (by decide) (by decide) (by decide) (by decide) zyx411e
/-! X8_number -/
noncomputable def zyx412a : List zAV := [.inr (.inr (.inl 94)), .inl ((.ofNat 3, .ofNat 3), none)]
def zyx412r : Option zAV := some (.inl ((.negSucc 2147483647, .ofNat 2147483647), none))
noncomputable def zyx412p : List zPw := [((11, ([(0, .inr (.inr (.inl 94))), (1, .inl ((.ofNat 3, .ofNat 3), some (1, .ofNat 0))), (2, .inl ((.negSucc 2147483647, .ofNat 2147483647), some (2, .ofNat 0))), (3, .inl ((.ofNat 1, .ofNat 3), some (3, .ofNat 0)))], [], zyh577, 0, 0), [(3, .negSucc 1)], .ofNat 7), (zyx412r, zyh577), 5, 600)]
noncomputable def zyx412d : zKw := (259, 4, 5, 600, zyx412a, zyh504, [(zyx412r, zyh577)])
set_option maxRecDepth 100000 in
theorem zyx412c : zchkX [] zprog2 (zovW [zyx411d]) 100000 kX8_number [] zyx412p zyx412p = true := by decide +kernel
set_option maxRecDepth 100000 in
theorem zyx412e : zrunw zprog2 (zovW [zyx411d]) 100000 (zcutW [] none ((zyx412r, zyh577), 5, 600) zyx412p) 5 600 kX8_number (zkin zyx412r zyh577) 0 (zargs 0 zyx412a, [], (zyh504.1, zyh504.2.1, 0), 0, 0) = true := by decide +kernel
theorem zyx412 {l : Launch} {D : va_G} {tys : List (ClassId × FieldType)} {o : zO} {z : Nat} (E : zEnv tys) : zKnW l D vwCl tys o z (zXX o z) zTs zprog2 zyx412d :=
  zkn_mk E (fun g => List.forall_mem_cons.mpr ⟨zyx411 (o := zwith o g) E, fun _ h => absurd h List.not_mem_nil⟩) (show zget zprog2 259 = some mX8_number from rfl) rfl (by decide) (by decide) (by decide) (by decide) (G := zyx412p) (zkn_pt E (fun g => List.forall_mem_cons.mpr ⟨zyx411 (o := zwith o g) E, fun _ h => absurd h List.not_mem_nil⟩) (show zget zprog2 259 = some mX8_number from rfl) (fun _ h => absurd h List.not_mem_nil) zyx412c) zyx412e
/-! X8_thing -/
noncomputable def zyx413a : List zAV := [.inr (.inr (.inl 94)), .inl ((.ofNat 0, .ofNat 4), none)]
def zyx413r : Option zAV := some (.inl ((.negSucc 2147483647, .ofNat 2147483647), none))
noncomputable def zyx413p : List zPw := []
noncomputable def zyx413d : zKw := (292, 4, 52, 6300, zyx413a, zyh504, [(zyx413r, zyh577)])
set_option maxRecDepth 100000 in
theorem zyx413e : zrunw zprog2 (zovW [zyx412d, zyx410d, zyx407d, zyx328d, zyx329d]) 100000 (zcutW [] none ((zyx413r, zyh577), 52, 6300) zyx413p) 52 6300 k2X8_thing (zkin zyx413r zyh577) 0 (zargs 0 zyx413a, [], (zyh504.1, zyh504.2.1, 0), 0, 0) = true := by decide +kernel
theorem zyx413 {l : Launch} {D : va_G} {tys : List (ClassId × FieldType)} {o : zO} {z : Nat} (E : zEnv tys) : zKnW l D vwCl tys o z (zXX o z) zTs zprog2 zyx413d :=
  zkn_mk E (fun g => List.forall_mem_cons.mpr ⟨zyx412 (o := zwith o g) E, List.forall_mem_cons.mpr ⟨zyx410 (o := zwith o g) E, List.forall_mem_cons.mpr ⟨zyx407 (o := zwith o g) E, List.forall_mem_cons.mpr ⟨zyx328 (o := zwith o g) E, List.forall_mem_cons.mpr ⟨zyx329 (o := zwith o g) E, fun _ h => absurd h List.not_mem_nil⟩⟩⟩⟩⟩) (show zget zprog2 292 = some m2X8_thing from rfl) rfl (by decide) (by decide) (by decide) (by decide) (G := zyx413p) (fun _ h => absurd h List.not_mem_nil) zyx413e
/-! X8_product ((('r', 102), 40, 28),) -/
noncomputable def zyx414a : List zAV := [.inr (.inr (.inl 94)), .inl ((.ofNat 0, .ofNat 4), none)]
def zyx414r : Option zAV := some (.inl ((.negSucc 2147483647, .ofNat 2147483647), none))
noncomputable def zyx414q : zPw := ((6, ([(0, .inr (.inr (.inl 94))), (1, .inl ((.ofNat 0, .ofNat 4), some (1, .ofNat 0))), (2, .inl ((.negSucc 2147483647, .ofNat 2147483647), some (2, .ofNat 0)))], [], zyh577, 0, 0), [], 0), (zyx414r, zyh577), 53, 6420)
set_option maxRecDepth 100000 in
theorem zyx414c : zchkX [(94, 15)] zprog2 (zovW [zyx413d, zyx407d]) 100000 k2X8_product [zyx408q, zyx402q, zyx396q, zyx390q, zyx384q, zyx378q, zyx372q, zyx366q, zyx360q, zyx354q, zyx348q, zyx342q] [zyx414q] [zyx414q] = true := by decide +kernel
theorem zyx414k {l : Launch} {D : va_G} {tys : List (ClassId × FieldType)} {o : zO} {z : Nat} (E : zEnv tys) : zPtOk l D vwCl tys o z (zXX o z) zTs m2X8_product zyx414q := zkn_pt E (fun g => List.forall_mem_cons.mpr ⟨zyx413 (o := zwith o g) E, List.forall_mem_cons.mpr ⟨zyx407 (o := zwith o g) E, fun _ h => absurd h List.not_mem_nil⟩⟩) (show zget zprog2 265 = some m2X8_product from rfl) (List.forall_mem_cons.mpr ⟨zyx408k E, List.forall_mem_cons.mpr ⟨zyx402k E, List.forall_mem_cons.mpr ⟨zyx396k E, List.forall_mem_cons.mpr ⟨zyx390k E, List.forall_mem_cons.mpr ⟨zyx384k E, List.forall_mem_cons.mpr ⟨zyx378k E, List.forall_mem_cons.mpr ⟨zyx372k E, List.forall_mem_cons.mpr ⟨zyx366k E, List.forall_mem_cons.mpr ⟨zyx360k E, List.forall_mem_cons.mpr ⟨zyx354k E, List.forall_mem_cons.mpr ⟨zyx348k E, List.forall_mem_cons.mpr ⟨zyx342k E, fun _ h => absurd h List.not_mem_nil⟩⟩⟩⟩⟩⟩⟩⟩⟩⟩⟩⟩) zyx414c _ List.mem_cons_self
noncomputable def zyx414d : zKw := (265, 5, 53, 6420, zyx414a, zyh504, [(zyx414r, zyh577)])
set_option maxRecDepth 100000 in
theorem zyx414e : zrunw zprog2 (zovW [zyx413d, zyx407d]) 100000 (zcutW [(94, 15)] none ((zyx414r, zyh577), 53, 6420) [zyx414q, zyx408q, zyx402q, zyx396q, zyx390q, zyx384q, zyx378q, zyx372q, zyx366q, zyx360q, zyx354q, zyx348q, zyx342q]) 53 6420 k2X8_product (zkin zyx414r zyh577) 0 (zargs 0 zyx414a, [], (zyh504.1, zyh504.2.1, 0), 0, 0) = true := by decide +kernel
theorem zyx414 {l : Launch} {D : va_G} {tys : List (ClassId × FieldType)} {o : zO} {z : Nat} (E : zEnv tys) : zKnW l D vwCl tys o z (zXX o z) zTs zprog2 zyx414d :=
  zkn_mk E (fun g => List.forall_mem_cons.mpr ⟨zyx413 (o := zwith o g) E, List.forall_mem_cons.mpr ⟨zyx407 (o := zwith o g) E, fun _ h => absurd h List.not_mem_nil⟩⟩) (show zget zprog2 265 = some m2X8_product from rfl) rfl (by decide) (by decide) (by decide) (by decide) (G := [zyx414q, zyx408q, zyx402q, zyx396q, zyx390q, zyx384q, zyx378q, zyx372q, zyx366q, zyx360q, zyx354q, zyx348q, zyx342q]) (List.forall_mem_cons.mpr ⟨zyx414k E, List.forall_mem_cons.mpr ⟨zyx408k E, List.forall_mem_cons.mpr ⟨zyx402k E, List.forall_mem_cons.mpr ⟨zyx396k E, List.forall_mem_cons.mpr ⟨zyx390k E, List.forall_mem_cons.mpr ⟨zyx384k E, List.forall_mem_cons.mpr ⟨zyx378k E, List.forall_mem_cons.mpr ⟨zyx372k E, List.forall_mem_cons.mpr ⟨zyx366k E, List.forall_mem_cons.mpr ⟨zyx360k E, List.forall_mem_cons.mpr ⟨zyx354k E, List.forall_mem_cons.mpr ⟨zyx348k E, List.forall_mem_cons.mpr ⟨zyx342k E, fun _ h => absurd h List.not_mem_nil⟩⟩⟩⟩⟩⟩⟩⟩⟩⟩⟩⟩⟩) zyx414e
/-! X8_sum ((('r', 102), 40, 28),) -/
noncomputable def zyx415a : List zAV := [.inr (.inr (.inl 94)), .inl ((.ofNat 1, .ofNat 4), none)]
def zyx415r : Option zAV := some (.inl ((.negSucc 2147483647, .ofNat 2147483647), none))
noncomputable def zyx415q : zPw := ((6, ([(0, .inr (.inr (.inl 94))), (1, .inl ((.ofNat 0, .ofNat 4), some (1, .ofNat 0))), (2, .inl ((.negSucc 2147483647, .ofNat 2147483647), some (2, .ofNat 0)))], [], zyh577, 0, 0), [], 0), (zyx415r, zyh577), 54, 6540)
set_option maxRecDepth 100000 in
theorem zyx415c : zchkX [(94, 15)] zprog2 (zovW [zyx414d, zyx408d]) 100000 kX8_sum [zyx409q, zyx403q, zyx397q, zyx391q, zyx385q, zyx379q, zyx373q, zyx367q, zyx361q, zyx355q, zyx349q, zyx343q] [zyx415q] [zyx415q] = true := by decide +kernel
theorem zyx415k {l : Launch} {D : va_G} {tys : List (ClassId × FieldType)} {o : zO} {z : Nat} (E : zEnv tys) : zPtOk l D vwCl tys o z (zXX o z) zTs mX8_sum zyx415q := zkn_pt E (fun g => List.forall_mem_cons.mpr ⟨zyx414 (o := zwith o g) E, List.forall_mem_cons.mpr ⟨zyx408 (o := zwith o g) E, fun _ h => absurd h List.not_mem_nil⟩⟩) (show zget zprog2 284 = some mX8_sum from rfl) (List.forall_mem_cons.mpr ⟨zyx409k E, List.forall_mem_cons.mpr ⟨zyx403k E, List.forall_mem_cons.mpr ⟨zyx397k E, List.forall_mem_cons.mpr ⟨zyx391k E, List.forall_mem_cons.mpr ⟨zyx385k E, List.forall_mem_cons.mpr ⟨zyx379k E, List.forall_mem_cons.mpr ⟨zyx373k E, List.forall_mem_cons.mpr ⟨zyx367k E, List.forall_mem_cons.mpr ⟨zyx361k E, List.forall_mem_cons.mpr ⟨zyx355k E, List.forall_mem_cons.mpr ⟨zyx349k E, List.forall_mem_cons.mpr ⟨zyx343k E, fun _ h => absurd h List.not_mem_nil⟩⟩⟩⟩⟩⟩⟩⟩⟩⟩⟩⟩) zyx415c _ List.mem_cons_self
noncomputable def zyx415d : zKw := (284, 5, 54, 6540, zyx415a, zyh504, [(zyx415r, zyh577)])
set_option maxRecDepth 100000 in
theorem zyx415e : zrunw zprog2 (zovW [zyx414d, zyx408d]) 100000 (zcutW [(94, 15)] none ((zyx415r, zyh577), 54, 6540) [zyx415q, zyx409q, zyx403q, zyx397q, zyx391q, zyx385q, zyx379q, zyx373q, zyx367q, zyx361q, zyx355q, zyx349q, zyx343q]) 54 6540 kX8_sum (zkin zyx415r zyh577) 0 (zargs 0 zyx415a, [], (zyh504.1, zyh504.2.1, 0), 0, 0) = true := by decide +kernel
theorem zyx415 {l : Launch} {D : va_G} {tys : List (ClassId × FieldType)} {o : zO} {z : Nat} (E : zEnv tys) : zKnW l D vwCl tys o z (zXX o z) zTs zprog2 zyx415d :=
  zkn_mk E (fun g => List.forall_mem_cons.mpr ⟨zyx414 (o := zwith o g) E, List.forall_mem_cons.mpr ⟨zyx408 (o := zwith o g) E, fun _ h => absurd h List.not_mem_nil⟩⟩) (show zget zprog2 284 = some mX8_sum from rfl) rfl (by decide) (by decide) (by decide) (by decide) (G := [zyx415q, zyx409q, zyx403q, zyx397q, zyx391q, zyx385q, zyx379q, zyx373q, zyx367q, zyx361q, zyx355q, zyx349q, zyx343q]) (List.forall_mem_cons.mpr ⟨zyx415k E, List.forall_mem_cons.mpr ⟨zyx409k E, List.forall_mem_cons.mpr ⟨zyx403k E, List.forall_mem_cons.mpr ⟨zyx397k E, List.forall_mem_cons.mpr ⟨zyx391k E, List.forall_mem_cons.mpr ⟨zyx385k E, List.forall_mem_cons.mpr ⟨zyx379k E, List.forall_mem_cons.mpr ⟨zyx373k E, List.forall_mem_cons.mpr ⟨zyx367k E, List.forall_mem_cons.mpr ⟨zyx361k E, List.forall_mem_cons.mpr ⟨zyx355k E, List.forall_mem_cons.mpr ⟨zyx349k E, List.forall_mem_cons.mpr ⟨zyx343k E, fun _ h => absurd h List.not_mem_nil⟩⟩⟩⟩⟩⟩⟩⟩⟩⟩⟩⟩⟩) zyx415e
/-! X8_heldBy -/
noncomputable def zyx416a : List zAV := [.inr (.inr (.inl 94)), .inl ((.ofNat 1, .ofNat 4), none)]
def zyx416r : Option zAV := some (.inl ((.negSucc 2147483647, .ofNat 2147483647), none))
noncomputable def zyx416p : List zPw := []
noncomputable def zyx416d : zKw := (229, 3, 55, 6660, zyx416a, zyh504, [(zyx416r, zyh577)])
set_option maxRecDepth 100000 in
theorem zyx416e : zrunw zprog2 (zovW [zyx415d, zyx409d, zyx328d]) 100000 (zcutW [] none ((zyx416r, zyh577), 55, 6660) zyx416p) 55 6660 kX8_heldBy (zkin zyx416r zyh577) 0 (zargs 0 zyx416a, [], (zyh504.1, zyh504.2.1, 0), 0, 0) = true := by decide +kernel
theorem zyx416 {l : Launch} {D : va_G} {tys : List (ClassId × FieldType)} {o : zO} {z : Nat} (E : zEnv tys) : zKnW l D vwCl tys o z (zXX o z) zTs zprog2 zyx416d :=
  zkn_mk E (fun g => List.forall_mem_cons.mpr ⟨zyx415 (o := zwith o g) E, List.forall_mem_cons.mpr ⟨zyx409 (o := zwith o g) E, List.forall_mem_cons.mpr ⟨zyx328 (o := zwith o g) E, fun _ h => absurd h List.not_mem_nil⟩⟩⟩) (show zget zprog2 229 = some mX8_heldBy from rfl) rfl (by decide) (by decide) (by decide) (by decide) (G := zyx416p) (fun _ h => absurd h List.not_mem_nil) zyx416e
/-! X8_oneOf -/
noncomputable def zyx417a : List zAV := [zyv320, zyv362, zyv363]
noncomputable def zyx417q : List (Option zAV × zH) := [(some (.inl ((.ofNat 0, .ofNat 0), none)), zyh578), (some (.inl ((.negSucc 175, .ofNat 79), none)), zyh579)]
noncomputable def zyx417d : zKw := (260, 3, 4, 480, zyx417a, zyh501, zyx417q)
set_option maxRecDepth 100000 in
theorem zyx417e : zrunw zprog2 (zovW []) 100000 zcut0 4 480 kX8_oneOf (zkinL zyx417q) 0 (zargs 0 zyx417a, [], (zyh501.1, zyh501.2.1, 0), 0, 0) = true := by decide +kernel
theorem zyx417 {l : Launch} {D : va_G} {tys : List (ClassId × FieldType)} {o : zO} {z : Nat} (E : zEnv tys) : zKnW l D vwCl tys o z (zXX o z) zTs zprog2 zyx417d :=
  zkn_ml E (fun g => fun _ h => absurd h List.not_mem_nil) (show zget zprog2 260 = some mX8_oneOf from rfl) rfl (by decide) (by decide) (by decide) (by decide) zyx417e
/-! X8_number -/
noncomputable def zyx418a : List zAV := [.inr (.inr (.inl 94)), .inl ((.ofNat 3, .ofNat 3), none)]
def zyx418r : Option zAV := some (.inl ((.negSucc 2147483647, .ofNat 2147483647), none))
noncomputable def zyx418p : List zPw := [((11, ([(0, .inr (.inr (.inl 94))), (1, .inl ((.ofNat 3, .ofNat 3), some (1, .ofNat 0))), (2, .inl ((.negSucc 2147483647, .ofNat 2147483647), some (2, .ofNat 0))), (3, .inl ((.ofNat 1, .ofNat 3), some (3, .ofNat 0)))], [], zyh580, 0, 0), [(3, .negSucc 1)], .ofNat 7), (zyx418r, zyh580), 5, 600)]
noncomputable def zyx418d : zKw := (259, 4, 5, 600, zyx418a, zyh501, [(zyx418r, zyh580)])
set_option maxRecDepth 100000 in
theorem zyx418c : zchkX [] zprog2 (zovW [zyx417d]) 100000 kX8_number [] zyx418p zyx418p = true := by decide +kernel
set_option maxRecDepth 100000 in
theorem zyx418e : zrunw zprog2 (zovW [zyx417d]) 100000 (zcutW [] none ((zyx418r, zyh580), 5, 600) zyx418p) 5 600 kX8_number (zkin zyx418r zyh580) 0 (zargs 0 zyx418a, [], (zyh501.1, zyh501.2.1, 0), 0, 0) = true := by decide +kernel
theorem zyx418 {l : Launch} {D : va_G} {tys : List (ClassId × FieldType)} {o : zO} {z : Nat} (E : zEnv tys) : zKnW l D vwCl tys o z (zXX o z) zTs zprog2 zyx418d :=
  zkn_mk E (fun g => List.forall_mem_cons.mpr ⟨zyx417 (o := zwith o g) E, fun _ h => absurd h List.not_mem_nil⟩) (show zget zprog2 259 = some mX8_number from rfl) rfl (by decide) (by decide) (by decide) (by decide) (G := zyx418p) (zkn_pt E (fun g => List.forall_mem_cons.mpr ⟨zyx417 (o := zwith o g) E, fun _ h => absurd h List.not_mem_nil⟩) (show zget zprog2 259 = some mX8_number from rfl) (fun _ h => absurd h List.not_mem_nil) zyx418c) zyx418e
/-! X8_thing -/
noncomputable def zyx419a : List zAV := [.inr (.inr (.inl 94)), .inl ((.ofNat 0, .ofNat 4), none)]
def zyx419r : Option zAV := some (.inl ((.negSucc 2147483647, .ofNat 2147483647), none))
noncomputable def zyx419p : List zPw := []
noncomputable def zyx419d : zKw := (292, 4, 56, 6780, zyx419a, zyh501, [(zyx419r, zyh580)])
set_option maxRecDepth 100000 in
theorem zyx419e : zrunw zprog2 (zovW [zyx418d, zyx416d, zyx413d, zyx327d, zyx328d]) 100000 (zcutW [] none ((zyx419r, zyh580), 56, 6780) zyx419p) 56 6780 k2X8_thing (zkin zyx419r zyh580) 0 (zargs 0 zyx419a, [], (zyh501.1, zyh501.2.1, 0), 0, 0) = true := by decide +kernel
theorem zyx419 {l : Launch} {D : va_G} {tys : List (ClassId × FieldType)} {o : zO} {z : Nat} (E : zEnv tys) : zKnW l D vwCl tys o z (zXX o z) zTs zprog2 zyx419d :=
  zkn_mk E (fun g => List.forall_mem_cons.mpr ⟨zyx418 (o := zwith o g) E, List.forall_mem_cons.mpr ⟨zyx416 (o := zwith o g) E, List.forall_mem_cons.mpr ⟨zyx413 (o := zwith o g) E, List.forall_mem_cons.mpr ⟨zyx327 (o := zwith o g) E, List.forall_mem_cons.mpr ⟨zyx328 (o := zwith o g) E, fun _ h => absurd h List.not_mem_nil⟩⟩⟩⟩⟩) (show zget zprog2 292 = some m2X8_thing from rfl) rfl (by decide) (by decide) (by decide) (by decide) (G := zyx419p) (fun _ h => absurd h List.not_mem_nil) zyx419e
/-! X8_product ((('r', 102), 40, 27),) -/
noncomputable def zyx420a : List zAV := [.inr (.inr (.inl 94)), .inl ((.ofNat 0, .ofNat 4), none)]
def zyx420r : Option zAV := some (.inl ((.negSucc 2147483647, .ofNat 2147483647), none))
noncomputable def zyx420q : zPw := ((6, ([(0, .inr (.inr (.inl 94))), (1, .inl ((.ofNat 0, .ofNat 4), some (1, .ofNat 0))), (2, .inl ((.negSucc 2147483647, .ofNat 2147483647), some (2, .ofNat 0)))], [], zyh580, 0, 0), [], 0), (zyx420r, zyh580), 57, 6900)
set_option maxRecDepth 100000 in
theorem zyx420c : zchkX [(94, 15)] zprog2 (zovW [zyx419d, zyx413d]) 100000 k2X8_product [zyx414q, zyx408q, zyx402q, zyx396q, zyx390q, zyx384q, zyx378q, zyx372q, zyx366q, zyx360q, zyx354q, zyx348q, zyx342q] [zyx420q] [zyx420q] = true := by decide +kernel
theorem zyx420k {l : Launch} {D : va_G} {tys : List (ClassId × FieldType)} {o : zO} {z : Nat} (E : zEnv tys) : zPtOk l D vwCl tys o z (zXX o z) zTs m2X8_product zyx420q := zkn_pt E (fun g => List.forall_mem_cons.mpr ⟨zyx419 (o := zwith o g) E, List.forall_mem_cons.mpr ⟨zyx413 (o := zwith o g) E, fun _ h => absurd h List.not_mem_nil⟩⟩) (show zget zprog2 265 = some m2X8_product from rfl) (List.forall_mem_cons.mpr ⟨zyx414k E, List.forall_mem_cons.mpr ⟨zyx408k E, List.forall_mem_cons.mpr ⟨zyx402k E, List.forall_mem_cons.mpr ⟨zyx396k E, List.forall_mem_cons.mpr ⟨zyx390k E, List.forall_mem_cons.mpr ⟨zyx384k E, List.forall_mem_cons.mpr ⟨zyx378k E, List.forall_mem_cons.mpr ⟨zyx372k E, List.forall_mem_cons.mpr ⟨zyx366k E, List.forall_mem_cons.mpr ⟨zyx360k E, List.forall_mem_cons.mpr ⟨zyx354k E, List.forall_mem_cons.mpr ⟨zyx348k E, List.forall_mem_cons.mpr ⟨zyx342k E, fun _ h => absurd h List.not_mem_nil⟩⟩⟩⟩⟩⟩⟩⟩⟩⟩⟩⟩⟩) zyx420c _ List.mem_cons_self
noncomputable def zyx420d : zKw := (265, 5, 57, 6900, zyx420a, zyh501, [(zyx420r, zyh580)])
set_option maxRecDepth 100000 in
theorem zyx420e : zrunw zprog2 (zovW [zyx419d, zyx413d]) 100000 (zcutW [(94, 15)] none ((zyx420r, zyh580), 57, 6900) [zyx420q, zyx414q, zyx408q, zyx402q, zyx396q, zyx390q, zyx384q, zyx378q, zyx372q, zyx366q, zyx360q, zyx354q, zyx348q, zyx342q]) 57 6900 k2X8_product (zkin zyx420r zyh580) 0 (zargs 0 zyx420a, [], (zyh501.1, zyh501.2.1, 0), 0, 0) = true := by decide +kernel
theorem zyx420 {l : Launch} {D : va_G} {tys : List (ClassId × FieldType)} {o : zO} {z : Nat} (E : zEnv tys) : zKnW l D vwCl tys o z (zXX o z) zTs zprog2 zyx420d :=
  zkn_mk E (fun g => List.forall_mem_cons.mpr ⟨zyx419 (o := zwith o g) E, List.forall_mem_cons.mpr ⟨zyx413 (o := zwith o g) E, fun _ h => absurd h List.not_mem_nil⟩⟩) (show zget zprog2 265 = some m2X8_product from rfl) rfl (by decide) (by decide) (by decide) (by decide) (G := [zyx420q, zyx414q, zyx408q, zyx402q, zyx396q, zyx390q, zyx384q, zyx378q, zyx372q, zyx366q, zyx360q, zyx354q, zyx348q, zyx342q]) (List.forall_mem_cons.mpr ⟨zyx420k E, List.forall_mem_cons.mpr ⟨zyx414k E, List.forall_mem_cons.mpr ⟨zyx408k E, List.forall_mem_cons.mpr ⟨zyx402k E, List.forall_mem_cons.mpr ⟨zyx396k E, List.forall_mem_cons.mpr ⟨zyx390k E, List.forall_mem_cons.mpr ⟨zyx384k E, List.forall_mem_cons.mpr ⟨zyx378k E, List.forall_mem_cons.mpr ⟨zyx372k E, List.forall_mem_cons.mpr ⟨zyx366k E, List.forall_mem_cons.mpr ⟨zyx360k E, List.forall_mem_cons.mpr ⟨zyx354k E, List.forall_mem_cons.mpr ⟨zyx348k E, List.forall_mem_cons.mpr ⟨zyx342k E, fun _ h => absurd h List.not_mem_nil⟩⟩⟩⟩⟩⟩⟩⟩⟩⟩⟩⟩⟩⟩) zyx420e
/-! X8_sum ((('r', 102), 40, 27),) -/
noncomputable def zyx421a : List zAV := [.inr (.inr (.inl 94)), .inl ((.ofNat 1, .ofNat 4), none)]
def zyx421r : Option zAV := some (.inl ((.negSucc 2147483647, .ofNat 2147483647), none))
noncomputable def zyx421q : zPw := ((6, ([(0, .inr (.inr (.inl 94))), (1, .inl ((.ofNat 0, .ofNat 4), some (1, .ofNat 0))), (2, .inl ((.negSucc 2147483647, .ofNat 2147483647), some (2, .ofNat 0)))], [], zyh580, 0, 0), [], 0), (zyx421r, zyh580), 58, 7020)
set_option maxRecDepth 100000 in
theorem zyx421c : zchkX [(94, 15)] zprog2 (zovW [zyx420d, zyx414d]) 100000 kX8_sum [zyx415q, zyx409q, zyx403q, zyx397q, zyx391q, zyx385q, zyx379q, zyx373q, zyx367q, zyx361q, zyx355q, zyx349q, zyx343q] [zyx421q] [zyx421q] = true := by decide +kernel
theorem zyx421k {l : Launch} {D : va_G} {tys : List (ClassId × FieldType)} {o : zO} {z : Nat} (E : zEnv tys) : zPtOk l D vwCl tys o z (zXX o z) zTs mX8_sum zyx421q := zkn_pt E (fun g => List.forall_mem_cons.mpr ⟨zyx420 (o := zwith o g) E, List.forall_mem_cons.mpr ⟨zyx414 (o := zwith o g) E, fun _ h => absurd h List.not_mem_nil⟩⟩) (show zget zprog2 284 = some mX8_sum from rfl) (List.forall_mem_cons.mpr ⟨zyx415k E, List.forall_mem_cons.mpr ⟨zyx409k E, List.forall_mem_cons.mpr ⟨zyx403k E, List.forall_mem_cons.mpr ⟨zyx397k E, List.forall_mem_cons.mpr ⟨zyx391k E, List.forall_mem_cons.mpr ⟨zyx385k E, List.forall_mem_cons.mpr ⟨zyx379k E, List.forall_mem_cons.mpr ⟨zyx373k E, List.forall_mem_cons.mpr ⟨zyx367k E, List.forall_mem_cons.mpr ⟨zyx361k E, List.forall_mem_cons.mpr ⟨zyx355k E, List.forall_mem_cons.mpr ⟨zyx349k E, List.forall_mem_cons.mpr ⟨zyx343k E, fun _ h => absurd h List.not_mem_nil⟩⟩⟩⟩⟩⟩⟩⟩⟩⟩⟩⟩⟩) zyx421c _ List.mem_cons_self
noncomputable def zyx421d : zKw := (284, 5, 58, 7020, zyx421a, zyh501, [(zyx421r, zyh580)])
set_option maxRecDepth 100000 in
theorem zyx421e : zrunw zprog2 (zovW [zyx420d, zyx414d]) 100000 (zcutW [(94, 15)] none ((zyx421r, zyh580), 58, 7020) [zyx421q, zyx415q, zyx409q, zyx403q, zyx397q, zyx391q, zyx385q, zyx379q, zyx373q, zyx367q, zyx361q, zyx355q, zyx349q, zyx343q]) 58 7020 kX8_sum (zkin zyx421r zyh580) 0 (zargs 0 zyx421a, [], (zyh501.1, zyh501.2.1, 0), 0, 0) = true := by decide +kernel
theorem zyx421 {l : Launch} {D : va_G} {tys : List (ClassId × FieldType)} {o : zO} {z : Nat} (E : zEnv tys) : zKnW l D vwCl tys o z (zXX o z) zTs zprog2 zyx421d :=
  zkn_mk E (fun g => List.forall_mem_cons.mpr ⟨zyx420 (o := zwith o g) E, List.forall_mem_cons.mpr ⟨zyx414 (o := zwith o g) E, fun _ h => absurd h List.not_mem_nil⟩⟩) (show zget zprog2 284 = some mX8_sum from rfl) rfl (by decide) (by decide) (by decide) (by decide) (G := [zyx421q, zyx415q, zyx409q, zyx403q, zyx397q, zyx391q, zyx385q, zyx379q, zyx373q, zyx367q, zyx361q, zyx355q, zyx349q, zyx343q]) (List.forall_mem_cons.mpr ⟨zyx421k E, List.forall_mem_cons.mpr ⟨zyx415k E, List.forall_mem_cons.mpr ⟨zyx409k E, List.forall_mem_cons.mpr ⟨zyx403k E, List.forall_mem_cons.mpr ⟨zyx397k E, List.forall_mem_cons.mpr ⟨zyx391k E, List.forall_mem_cons.mpr ⟨zyx385k E, List.forall_mem_cons.mpr ⟨zyx379k E, List.forall_mem_cons.mpr ⟨zyx373k E, List.forall_mem_cons.mpr ⟨zyx367k E, List.forall_mem_cons.mpr ⟨zyx361k E, List.forall_mem_cons.mpr ⟨zyx355k E, List.forall_mem_cons.mpr ⟨zyx349k E, List.forall_mem_cons.mpr ⟨zyx343k E, fun _ h => absurd h List.not_mem_nil⟩⟩⟩⟩⟩⟩⟩⟩⟩⟩⟩⟩⟩⟩) zyx421e
/-! X8_heldBy -/
noncomputable def zyx422a : List zAV := [.inr (.inr (.inl 94)), .inl ((.ofNat 1, .ofNat 4), none)]
def zyx422r : Option zAV := some (.inl ((.negSucc 2147483647, .ofNat 2147483647), none))
noncomputable def zyx422p : List zPw := []
noncomputable def zyx422d : zKw := (229, 3, 59, 7140, zyx422a, zyh501, [(zyx422r, zyh580)])
set_option maxRecDepth 100000 in
theorem zyx422e : zrunw zprog2 (zovW [zyx421d, zyx415d, zyx327d]) 100000 (zcutW [] none ((zyx422r, zyh580), 59, 7140) zyx422p) 59 7140 kX8_heldBy (zkin zyx422r zyh580) 0 (zargs 0 zyx422a, [], (zyh501.1, zyh501.2.1, 0), 0, 0) = true := by decide +kernel
theorem zyx422 {l : Launch} {D : va_G} {tys : List (ClassId × FieldType)} {o : zO} {z : Nat} (E : zEnv tys) : zKnW l D vwCl tys o z (zXX o z) zTs zprog2 zyx422d :=
  zkn_mk E (fun g => List.forall_mem_cons.mpr ⟨zyx421 (o := zwith o g) E, List.forall_mem_cons.mpr ⟨zyx415 (o := zwith o g) E, List.forall_mem_cons.mpr ⟨zyx327 (o := zwith o g) E, fun _ h => absurd h List.not_mem_nil⟩⟩⟩) (show zget zprog2 229 = some mX8_heldBy from rfl) rfl (by decide) (by decide) (by decide) (by decide) (G := zyx422p) (fun _ h => absurd h List.not_mem_nil) zyx422e
/-! X8_oneOf -/
noncomputable def zyx423a : List zAV := [zyv320, zyv362, zyv363]
noncomputable def zyx423q : List (Option zAV × zH) := [(some (.inl ((.ofNat 0, .ofNat 0), none)), zyh581), (some (.inl ((.negSucc 175, .ofNat 79), none)), zyh582)]
noncomputable def zyx423d : zKw := (260, 3, 4, 480, zyx423a, zyh498, zyx423q)
set_option maxRecDepth 100000 in
theorem zyx423e : zrunw zprog2 (zovW []) 100000 zcut0 4 480 kX8_oneOf (zkinL zyx423q) 0 (zargs 0 zyx423a, [], (zyh498.1, zyh498.2.1, 0), 0, 0) = true := by decide +kernel
theorem zyx423 {l : Launch} {D : va_G} {tys : List (ClassId × FieldType)} {o : zO} {z : Nat} (E : zEnv tys) : zKnW l D vwCl tys o z (zXX o z) zTs zprog2 zyx423d :=
  zkn_ml E (fun g => fun _ h => absurd h List.not_mem_nil) (show zget zprog2 260 = some mX8_oneOf from rfl) rfl (by decide) (by decide) (by decide) (by decide) zyx423e
/-! X8_number -/
noncomputable def zyx424a : List zAV := [.inr (.inr (.inl 94)), .inl ((.ofNat 3, .ofNat 3), none)]
def zyx424r : Option zAV := some (.inl ((.negSucc 2147483647, .ofNat 2147483647), none))
noncomputable def zyx424p : List zPw := [((11, ([(0, .inr (.inr (.inl 94))), (1, .inl ((.ofNat 3, .ofNat 3), some (1, .ofNat 0))), (2, .inl ((.negSucc 2147483647, .ofNat 2147483647), some (2, .ofNat 0))), (3, .inl ((.ofNat 1, .ofNat 3), some (3, .ofNat 0)))], [], zyh583, 0, 0), [(3, .negSucc 1)], .ofNat 7), (zyx424r, zyh583), 5, 600)]
noncomputable def zyx424d : zKw := (259, 4, 5, 600, zyx424a, zyh498, [(zyx424r, zyh583)])
set_option maxRecDepth 100000 in
theorem zyx424c : zchkX [] zprog2 (zovW [zyx423d]) 100000 kX8_number [] zyx424p zyx424p = true := by decide +kernel
set_option maxRecDepth 100000 in
theorem zyx424e : zrunw zprog2 (zovW [zyx423d]) 100000 (zcutW [] none ((zyx424r, zyh583), 5, 600) zyx424p) 5 600 kX8_number (zkin zyx424r zyh583) 0 (zargs 0 zyx424a, [], (zyh498.1, zyh498.2.1, 0), 0, 0) = true := by decide +kernel
theorem zyx424 {l : Launch} {D : va_G} {tys : List (ClassId × FieldType)} {o : zO} {z : Nat} (E : zEnv tys) : zKnW l D vwCl tys o z (zXX o z) zTs zprog2 zyx424d :=
  zkn_mk E (fun g => List.forall_mem_cons.mpr ⟨zyx423 (o := zwith o g) E, fun _ h => absurd h List.not_mem_nil⟩) (show zget zprog2 259 = some mX8_number from rfl) rfl (by decide) (by decide) (by decide) (by decide) (G := zyx424p) (zkn_pt E (fun g => List.forall_mem_cons.mpr ⟨zyx423 (o := zwith o g) E, fun _ h => absurd h List.not_mem_nil⟩) (show zget zprog2 259 = some mX8_number from rfl) (fun _ h => absurd h List.not_mem_nil) zyx424c) zyx424e
/-! X8_thing -/
noncomputable def zyx425a : List zAV := [.inr (.inr (.inl 94)), .inl ((.ofNat 0, .ofNat 4), none)]
def zyx425r : Option zAV := some (.inl ((.negSucc 2147483647, .ofNat 2147483647), none))
noncomputable def zyx425p : List zPw := []
noncomputable def zyx425d : zKw := (292, 4, 60, 7260, zyx425a, zyh498, [(zyx425r, zyh583)])
set_option maxRecDepth 100000 in
theorem zyx425e : zrunw zprog2 (zovW [zyx424d, zyx422d, zyx419d, zyx326d, zyx327d]) 100000 (zcutW [] none ((zyx425r, zyh583), 60, 7260) zyx425p) 60 7260 k2X8_thing (zkin zyx425r zyh583) 0 (zargs 0 zyx425a, [], (zyh498.1, zyh498.2.1, 0), 0, 0) = true := by decide +kernel
theorem zyx425 {l : Launch} {D : va_G} {tys : List (ClassId × FieldType)} {o : zO} {z : Nat} (E : zEnv tys) : zKnW l D vwCl tys o z (zXX o z) zTs zprog2 zyx425d :=
  zkn_mk E (fun g => List.forall_mem_cons.mpr ⟨zyx424 (o := zwith o g) E, List.forall_mem_cons.mpr ⟨zyx422 (o := zwith o g) E, List.forall_mem_cons.mpr ⟨zyx419 (o := zwith o g) E, List.forall_mem_cons.mpr ⟨zyx326 (o := zwith o g) E, List.forall_mem_cons.mpr ⟨zyx327 (o := zwith o g) E, fun _ h => absurd h List.not_mem_nil⟩⟩⟩⟩⟩) (show zget zprog2 292 = some m2X8_thing from rfl) rfl (by decide) (by decide) (by decide) (by decide) (G := zyx425p) (fun _ h => absurd h List.not_mem_nil) zyx425e
/-! X8_product ((('r', 102), 40, 26),) -/
noncomputable def zyx426a : List zAV := [.inr (.inr (.inl 94)), .inl ((.ofNat 0, .ofNat 4), none)]
def zyx426r : Option zAV := some (.inl ((.negSucc 2147483647, .ofNat 2147483647), none))
noncomputable def zyx426q : zPw := ((6, ([(0, .inr (.inr (.inl 94))), (1, .inl ((.ofNat 0, .ofNat 4), some (1, .ofNat 0))), (2, .inl ((.negSucc 2147483647, .ofNat 2147483647), some (2, .ofNat 0)))], [], zyh583, 0, 0), [], 0), (zyx426r, zyh583), 61, 7380)
set_option maxRecDepth 100000 in
theorem zyx426c : zchkX [(94, 15)] zprog2 (zovW [zyx425d, zyx419d]) 100000 k2X8_product [zyx420q, zyx414q, zyx408q, zyx402q, zyx396q, zyx390q, zyx384q, zyx378q, zyx372q, zyx366q, zyx360q, zyx354q, zyx348q, zyx342q] [zyx426q] [zyx426q] = true := by decide +kernel
theorem zyx426k {l : Launch} {D : va_G} {tys : List (ClassId × FieldType)} {o : zO} {z : Nat} (E : zEnv tys) : zPtOk l D vwCl tys o z (zXX o z) zTs m2X8_product zyx426q := zkn_pt E (fun g => List.forall_mem_cons.mpr ⟨zyx425 (o := zwith o g) E, List.forall_mem_cons.mpr ⟨zyx419 (o := zwith o g) E, fun _ h => absurd h List.not_mem_nil⟩⟩) (show zget zprog2 265 = some m2X8_product from rfl) (List.forall_mem_cons.mpr ⟨zyx420k E, List.forall_mem_cons.mpr ⟨zyx414k E, List.forall_mem_cons.mpr ⟨zyx408k E, List.forall_mem_cons.mpr ⟨zyx402k E, List.forall_mem_cons.mpr ⟨zyx396k E, List.forall_mem_cons.mpr ⟨zyx390k E, List.forall_mem_cons.mpr ⟨zyx384k E, List.forall_mem_cons.mpr ⟨zyx378k E, List.forall_mem_cons.mpr ⟨zyx372k E, List.forall_mem_cons.mpr ⟨zyx366k E, List.forall_mem_cons.mpr ⟨zyx360k E, List.forall_mem_cons.mpr ⟨zyx354k E, List.forall_mem_cons.mpr ⟨zyx348k E, List.forall_mem_cons.mpr ⟨zyx342k E, fun _ h => absurd h List.not_mem_nil⟩⟩⟩⟩⟩⟩⟩⟩⟩⟩⟩⟩⟩⟩) zyx426c _ List.mem_cons_self
noncomputable def zyx426d : zKw := (265, 5, 61, 7380, zyx426a, zyh498, [(zyx426r, zyh583)])
set_option maxRecDepth 100000 in
theorem zyx426e : zrunw zprog2 (zovW [zyx425d, zyx419d]) 100000 (zcutW [(94, 15)] none ((zyx426r, zyh583), 61, 7380) [zyx426q, zyx420q, zyx414q, zyx408q, zyx402q, zyx396q, zyx390q, zyx384q, zyx378q, zyx372q, zyx366q, zyx360q, zyx354q, zyx348q, zyx342q]) 61 7380 k2X8_product (zkin zyx426r zyh583) 0 (zargs 0 zyx426a, [], (zyh498.1, zyh498.2.1, 0), 0, 0) = true := by decide +kernel
theorem zyx426 {l : Launch} {D : va_G} {tys : List (ClassId × FieldType)} {o : zO} {z : Nat} (E : zEnv tys) : zKnW l D vwCl tys o z (zXX o z) zTs zprog2 zyx426d :=
  zkn_mk E (fun g => List.forall_mem_cons.mpr ⟨zyx425 (o := zwith o g) E, List.forall_mem_cons.mpr ⟨zyx419 (o := zwith o g) E, fun _ h => absurd h List.not_mem_nil⟩⟩) (show zget zprog2 265 = some m2X8_product from rfl) rfl (by decide) (by decide) (by decide) (by decide) (G := [zyx426q, zyx420q, zyx414q, zyx408q, zyx402q, zyx396q, zyx390q, zyx384q, zyx378q, zyx372q, zyx366q, zyx360q, zyx354q, zyx348q, zyx342q]) (List.forall_mem_cons.mpr ⟨zyx426k E, List.forall_mem_cons.mpr ⟨zyx420k E, List.forall_mem_cons.mpr ⟨zyx414k E, List.forall_mem_cons.mpr ⟨zyx408k E, List.forall_mem_cons.mpr ⟨zyx402k E, List.forall_mem_cons.mpr ⟨zyx396k E, List.forall_mem_cons.mpr ⟨zyx390k E, List.forall_mem_cons.mpr ⟨zyx384k E, List.forall_mem_cons.mpr ⟨zyx378k E, List.forall_mem_cons.mpr ⟨zyx372k E, List.forall_mem_cons.mpr ⟨zyx366k E, List.forall_mem_cons.mpr ⟨zyx360k E, List.forall_mem_cons.mpr ⟨zyx354k E, List.forall_mem_cons.mpr ⟨zyx348k E, List.forall_mem_cons.mpr ⟨zyx342k E, fun _ h => absurd h List.not_mem_nil⟩⟩⟩⟩⟩⟩⟩⟩⟩⟩⟩⟩⟩⟩⟩) zyx426e
/-! X8_sum ((('r', 102), 40, 26),) -/
noncomputable def zyx427a : List zAV := [.inr (.inr (.inl 94)), .inl ((.ofNat 1, .ofNat 4), none)]
def zyx427r : Option zAV := some (.inl ((.negSucc 2147483647, .ofNat 2147483647), none))
noncomputable def zyx427q : zPw := ((6, ([(0, .inr (.inr (.inl 94))), (1, .inl ((.ofNat 0, .ofNat 4), some (1, .ofNat 0))), (2, .inl ((.negSucc 2147483647, .ofNat 2147483647), some (2, .ofNat 0)))], [], zyh583, 0, 0), [], 0), (zyx427r, zyh583), 62, 7500)
set_option maxRecDepth 100000 in
theorem zyx427c : zchkX [(94, 15)] zprog2 (zovW [zyx426d, zyx420d]) 100000 kX8_sum [zyx421q, zyx415q, zyx409q, zyx403q, zyx397q, zyx391q, zyx385q, zyx379q, zyx373q, zyx367q, zyx361q, zyx355q, zyx349q, zyx343q] [zyx427q] [zyx427q] = true := by decide +kernel
theorem zyx427k {l : Launch} {D : va_G} {tys : List (ClassId × FieldType)} {o : zO} {z : Nat} (E : zEnv tys) : zPtOk l D vwCl tys o z (zXX o z) zTs mX8_sum zyx427q := zkn_pt E (fun g => List.forall_mem_cons.mpr ⟨zyx426 (o := zwith o g) E, List.forall_mem_cons.mpr ⟨zyx420 (o := zwith o g) E, fun _ h => absurd h List.not_mem_nil⟩⟩) (show zget zprog2 284 = some mX8_sum from rfl) (List.forall_mem_cons.mpr ⟨zyx421k E, List.forall_mem_cons.mpr ⟨zyx415k E, List.forall_mem_cons.mpr ⟨zyx409k E, List.forall_mem_cons.mpr ⟨zyx403k E, List.forall_mem_cons.mpr ⟨zyx397k E, List.forall_mem_cons.mpr ⟨zyx391k E, List.forall_mem_cons.mpr ⟨zyx385k E, List.forall_mem_cons.mpr ⟨zyx379k E, List.forall_mem_cons.mpr ⟨zyx373k E, List.forall_mem_cons.mpr ⟨zyx367k E, List.forall_mem_cons.mpr ⟨zyx361k E, List.forall_mem_cons.mpr ⟨zyx355k E, List.forall_mem_cons.mpr ⟨zyx349k E, List.forall_mem_cons.mpr ⟨zyx343k E, fun _ h => absurd h List.not_mem_nil⟩⟩⟩⟩⟩⟩⟩⟩⟩⟩⟩⟩⟩⟩) zyx427c _ List.mem_cons_self
noncomputable def zyx427d : zKw := (284, 5, 62, 7500, zyx427a, zyh498, [(zyx427r, zyh583)])
set_option maxRecDepth 100000 in
theorem zyx427e : zrunw zprog2 (zovW [zyx426d, zyx420d]) 100000 (zcutW [(94, 15)] none ((zyx427r, zyh583), 62, 7500) [zyx427q, zyx421q, zyx415q, zyx409q, zyx403q, zyx397q, zyx391q, zyx385q, zyx379q, zyx373q, zyx367q, zyx361q, zyx355q, zyx349q, zyx343q]) 62 7500 kX8_sum (zkin zyx427r zyh583) 0 (zargs 0 zyx427a, [], (zyh498.1, zyh498.2.1, 0), 0, 0) = true := by decide +kernel
theorem zyx427 {l : Launch} {D : va_G} {tys : List (ClassId × FieldType)} {o : zO} {z : Nat} (E : zEnv tys) : zKnW l D vwCl tys o z (zXX o z) zTs zprog2 zyx427d :=
  zkn_mk E (fun g => List.forall_mem_cons.mpr ⟨zyx426 (o := zwith o g) E, List.forall_mem_cons.mpr ⟨zyx420 (o := zwith o g) E, fun _ h => absurd h List.not_mem_nil⟩⟩) (show zget zprog2 284 = some mX8_sum from rfl) rfl (by decide) (by decide) (by decide) (by decide) (G := [zyx427q, zyx421q, zyx415q, zyx409q, zyx403q, zyx397q, zyx391q, zyx385q, zyx379q, zyx373q, zyx367q, zyx361q, zyx355q, zyx349q, zyx343q]) (List.forall_mem_cons.mpr ⟨zyx427k E, List.forall_mem_cons.mpr ⟨zyx421k E, List.forall_mem_cons.mpr ⟨zyx415k E, List.forall_mem_cons.mpr ⟨zyx409k E, List.forall_mem_cons.mpr ⟨zyx403k E, List.forall_mem_cons.mpr ⟨zyx397k E, List.forall_mem_cons.mpr ⟨zyx391k E, List.forall_mem_cons.mpr ⟨zyx385k E, List.forall_mem_cons.mpr ⟨zyx379k E, List.forall_mem_cons.mpr ⟨zyx373k E, List.forall_mem_cons.mpr ⟨zyx367k E, List.forall_mem_cons.mpr ⟨zyx361k E, List.forall_mem_cons.mpr ⟨zyx355k E, List.forall_mem_cons.mpr ⟨zyx349k E, List.forall_mem_cons.mpr ⟨zyx343k E, fun _ h => absurd h List.not_mem_nil⟩⟩⟩⟩⟩⟩⟩⟩⟩⟩⟩⟩⟩⟩⟩) zyx427e
/-! X8_heldBy -/
noncomputable def zyx428a : List zAV := [.inr (.inr (.inl 94)), .inl ((.ofNat 1, .ofNat 4), none)]
def zyx428r : Option zAV := some (.inl ((.negSucc 2147483647, .ofNat 2147483647), none))
noncomputable def zyx428p : List zPw := []
noncomputable def zyx428d : zKw := (229, 3, 63, 7620, zyx428a, zyh498, [(zyx428r, zyh583)])
set_option maxRecDepth 100000 in
theorem zyx428e : zrunw zprog2 (zovW [zyx427d, zyx421d, zyx326d]) 100000 (zcutW [] none ((zyx428r, zyh583), 63, 7620) zyx428p) 63 7620 kX8_heldBy (zkin zyx428r zyh583) 0 (zargs 0 zyx428a, [], (zyh498.1, zyh498.2.1, 0), 0, 0) = true := by decide +kernel
theorem zyx428 {l : Launch} {D : va_G} {tys : List (ClassId × FieldType)} {o : zO} {z : Nat} (E : zEnv tys) : zKnW l D vwCl tys o z (zXX o z) zTs zprog2 zyx428d :=
  zkn_mk E (fun g => List.forall_mem_cons.mpr ⟨zyx427 (o := zwith o g) E, List.forall_mem_cons.mpr ⟨zyx421 (o := zwith o g) E, List.forall_mem_cons.mpr ⟨zyx326 (o := zwith o g) E, fun _ h => absurd h List.not_mem_nil⟩⟩⟩) (show zget zprog2 229 = some mX8_heldBy from rfl) rfl (by decide) (by decide) (by decide) (by decide) (G := zyx428p) (fun _ h => absurd h List.not_mem_nil) zyx428e
/-! X8_oneOf -/
noncomputable def zyx429a : List zAV := [zyv320, zyv362, zyv363]
noncomputable def zyx429q : List (Option zAV × zH) := [(some (.inl ((.ofNat 0, .ofNat 0), none)), zyh584), (some (.inl ((.negSucc 175, .ofNat 79), none)), zyh585)]
noncomputable def zyx429d : zKw := (260, 3, 4, 480, zyx429a, zyh495, zyx429q)
set_option maxRecDepth 100000 in
theorem zyx429e : zrunw zprog2 (zovW []) 100000 zcut0 4 480 kX8_oneOf (zkinL zyx429q) 0 (zargs 0 zyx429a, [], (zyh495.1, zyh495.2.1, 0), 0, 0) = true := by decide +kernel
theorem zyx429 {l : Launch} {D : va_G} {tys : List (ClassId × FieldType)} {o : zO} {z : Nat} (E : zEnv tys) : zKnW l D vwCl tys o z (zXX o z) zTs zprog2 zyx429d :=
  zkn_ml E (fun g => fun _ h => absurd h List.not_mem_nil) (show zget zprog2 260 = some mX8_oneOf from rfl) rfl (by decide) (by decide) (by decide) (by decide) zyx429e
/-! X8_number -/
noncomputable def zyx430a : List zAV := [.inr (.inr (.inl 94)), .inl ((.ofNat 3, .ofNat 3), none)]
def zyx430r : Option zAV := some (.inl ((.negSucc 2147483647, .ofNat 2147483647), none))
noncomputable def zyx430p : List zPw := [((11, ([(0, .inr (.inr (.inl 94))), (1, .inl ((.ofNat 3, .ofNat 3), some (1, .ofNat 0))), (2, .inl ((.negSucc 2147483647, .ofNat 2147483647), some (2, .ofNat 0))), (3, .inl ((.ofNat 1, .ofNat 3), some (3, .ofNat 0)))], [], zyh586, 0, 0), [(3, .negSucc 1)], .ofNat 7), (zyx430r, zyh586), 5, 600)]
noncomputable def zyx430d : zKw := (259, 4, 5, 600, zyx430a, zyh495, [(zyx430r, zyh586)])
set_option maxRecDepth 100000 in
theorem zyx430c : zchkX [] zprog2 (zovW [zyx429d]) 100000 kX8_number [] zyx430p zyx430p = true := by decide +kernel
set_option maxRecDepth 100000 in
theorem zyx430e : zrunw zprog2 (zovW [zyx429d]) 100000 (zcutW [] none ((zyx430r, zyh586), 5, 600) zyx430p) 5 600 kX8_number (zkin zyx430r zyh586) 0 (zargs 0 zyx430a, [], (zyh495.1, zyh495.2.1, 0), 0, 0) = true := by decide +kernel
theorem zyx430 {l : Launch} {D : va_G} {tys : List (ClassId × FieldType)} {o : zO} {z : Nat} (E : zEnv tys) : zKnW l D vwCl tys o z (zXX o z) zTs zprog2 zyx430d :=
  zkn_mk E (fun g => List.forall_mem_cons.mpr ⟨zyx429 (o := zwith o g) E, fun _ h => absurd h List.not_mem_nil⟩) (show zget zprog2 259 = some mX8_number from rfl) rfl (by decide) (by decide) (by decide) (by decide) (G := zyx430p) (zkn_pt E (fun g => List.forall_mem_cons.mpr ⟨zyx429 (o := zwith o g) E, fun _ h => absurd h List.not_mem_nil⟩) (show zget zprog2 259 = some mX8_number from rfl) (fun _ h => absurd h List.not_mem_nil) zyx430c) zyx430e
/-! X8_thing -/
noncomputable def zyx431a : List zAV := [.inr (.inr (.inl 94)), .inl ((.ofNat 0, .ofNat 4), none)]
def zyx431r : Option zAV := some (.inl ((.negSucc 2147483647, .ofNat 2147483647), none))
noncomputable def zyx431p : List zPw := []
noncomputable def zyx431d : zKw := (292, 4, 64, 7740, zyx431a, zyh495, [(zyx431r, zyh586)])
set_option maxRecDepth 100000 in
theorem zyx431e : zrunw zprog2 (zovW [zyx430d, zyx428d, zyx425d, zyx325d, zyx326d]) 100000 (zcutW [] none ((zyx431r, zyh586), 64, 7740) zyx431p) 64 7740 k2X8_thing (zkin zyx431r zyh586) 0 (zargs 0 zyx431a, [], (zyh495.1, zyh495.2.1, 0), 0, 0) = true := by decide +kernel
theorem zyx431 {l : Launch} {D : va_G} {tys : List (ClassId × FieldType)} {o : zO} {z : Nat} (E : zEnv tys) : zKnW l D vwCl tys o z (zXX o z) zTs zprog2 zyx431d :=
  zkn_mk E (fun g => List.forall_mem_cons.mpr ⟨zyx430 (o := zwith o g) E, List.forall_mem_cons.mpr ⟨zyx428 (o := zwith o g) E, List.forall_mem_cons.mpr ⟨zyx425 (o := zwith o g) E, List.forall_mem_cons.mpr ⟨zyx325 (o := zwith o g) E, List.forall_mem_cons.mpr ⟨zyx326 (o := zwith o g) E, fun _ h => absurd h List.not_mem_nil⟩⟩⟩⟩⟩) (show zget zprog2 292 = some m2X8_thing from rfl) rfl (by decide) (by decide) (by decide) (by decide) (G := zyx431p) (fun _ h => absurd h List.not_mem_nil) zyx431e
/-! X8_product ((('r', 102), 40, 25),) -/
noncomputable def zyx432a : List zAV := [.inr (.inr (.inl 94)), .inl ((.ofNat 0, .ofNat 4), none)]
def zyx432r : Option zAV := some (.inl ((.negSucc 2147483647, .ofNat 2147483647), none))
noncomputable def zyx432q : zPw := ((6, ([(0, .inr (.inr (.inl 94))), (1, .inl ((.ofNat 0, .ofNat 4), some (1, .ofNat 0))), (2, .inl ((.negSucc 2147483647, .ofNat 2147483647), some (2, .ofNat 0)))], [], zyh586, 0, 0), [], 0), (zyx432r, zyh586), 65, 7860)
set_option maxRecDepth 100000 in
theorem zyx432c : zchkX [(94, 15)] zprog2 (zovW [zyx431d, zyx425d]) 100000 k2X8_product [zyx426q, zyx420q, zyx414q, zyx408q, zyx402q, zyx396q, zyx390q, zyx384q, zyx378q, zyx372q, zyx366q, zyx360q, zyx354q, zyx348q, zyx342q] [zyx432q] [zyx432q] = true := by decide +kernel
theorem zyx432k {l : Launch} {D : va_G} {tys : List (ClassId × FieldType)} {o : zO} {z : Nat} (E : zEnv tys) : zPtOk l D vwCl tys o z (zXX o z) zTs m2X8_product zyx432q := zkn_pt E (fun g => List.forall_mem_cons.mpr ⟨zyx431 (o := zwith o g) E, List.forall_mem_cons.mpr ⟨zyx425 (o := zwith o g) E, fun _ h => absurd h List.not_mem_nil⟩⟩) (show zget zprog2 265 = some m2X8_product from rfl) (List.forall_mem_cons.mpr ⟨zyx426k E, List.forall_mem_cons.mpr ⟨zyx420k E, List.forall_mem_cons.mpr ⟨zyx414k E, List.forall_mem_cons.mpr ⟨zyx408k E, List.forall_mem_cons.mpr ⟨zyx402k E, List.forall_mem_cons.mpr ⟨zyx396k E, List.forall_mem_cons.mpr ⟨zyx390k E, List.forall_mem_cons.mpr ⟨zyx384k E, List.forall_mem_cons.mpr ⟨zyx378k E, List.forall_mem_cons.mpr ⟨zyx372k E, List.forall_mem_cons.mpr ⟨zyx366k E, List.forall_mem_cons.mpr ⟨zyx360k E, List.forall_mem_cons.mpr ⟨zyx354k E, List.forall_mem_cons.mpr ⟨zyx348k E, List.forall_mem_cons.mpr ⟨zyx342k E, fun _ h => absurd h List.not_mem_nil⟩⟩⟩⟩⟩⟩⟩⟩⟩⟩⟩⟩⟩⟩⟩) zyx432c _ List.mem_cons_self
noncomputable def zyx432d : zKw := (265, 5, 65, 7860, zyx432a, zyh495, [(zyx432r, zyh586)])
set_option maxRecDepth 100000 in
theorem zyx432e : zrunw zprog2 (zovW [zyx431d, zyx425d]) 100000 (zcutW [(94, 15)] none ((zyx432r, zyh586), 65, 7860) [zyx432q, zyx426q, zyx420q, zyx414q, zyx408q, zyx402q, zyx396q, zyx390q, zyx384q, zyx378q, zyx372q, zyx366q, zyx360q, zyx354q, zyx348q, zyx342q]) 65 7860 k2X8_product (zkin zyx432r zyh586) 0 (zargs 0 zyx432a, [], (zyh495.1, zyh495.2.1, 0), 0, 0) = true := by decide +kernel
theorem zyx432 {l : Launch} {D : va_G} {tys : List (ClassId × FieldType)} {o : zO} {z : Nat} (E : zEnv tys) : zKnW l D vwCl tys o z (zXX o z) zTs zprog2 zyx432d :=
  zkn_mk E (fun g => List.forall_mem_cons.mpr ⟨zyx431 (o := zwith o g) E, List.forall_mem_cons.mpr ⟨zyx425 (o := zwith o g) E, fun _ h => absurd h List.not_mem_nil⟩⟩) (show zget zprog2 265 = some m2X8_product from rfl) rfl (by decide) (by decide) (by decide) (by decide) (G := [zyx432q, zyx426q, zyx420q, zyx414q, zyx408q, zyx402q, zyx396q, zyx390q, zyx384q, zyx378q, zyx372q, zyx366q, zyx360q, zyx354q, zyx348q, zyx342q]) (List.forall_mem_cons.mpr ⟨zyx432k E, List.forall_mem_cons.mpr ⟨zyx426k E, List.forall_mem_cons.mpr ⟨zyx420k E, List.forall_mem_cons.mpr ⟨zyx414k E, List.forall_mem_cons.mpr ⟨zyx408k E, List.forall_mem_cons.mpr ⟨zyx402k E, List.forall_mem_cons.mpr ⟨zyx396k E, List.forall_mem_cons.mpr ⟨zyx390k E, List.forall_mem_cons.mpr ⟨zyx384k E, List.forall_mem_cons.mpr ⟨zyx378k E, List.forall_mem_cons.mpr ⟨zyx372k E, List.forall_mem_cons.mpr ⟨zyx366k E, List.forall_mem_cons.mpr ⟨zyx360k E, List.forall_mem_cons.mpr ⟨zyx354k E, List.forall_mem_cons.mpr ⟨zyx348k E, List.forall_mem_cons.mpr ⟨zyx342k E, fun _ h => absurd h List.not_mem_nil⟩⟩⟩⟩⟩⟩⟩⟩⟩⟩⟩⟩⟩⟩⟩⟩) zyx432e
/-! X8_sum ((('r', 102), 40, 25),) -/
noncomputable def zyx433a : List zAV := [.inr (.inr (.inl 94)), .inl ((.ofNat 1, .ofNat 4), none)]
def zyx433r : Option zAV := some (.inl ((.negSucc 2147483647, .ofNat 2147483647), none))
noncomputable def zyx433q : zPw := ((6, ([(0, .inr (.inr (.inl 94))), (1, .inl ((.ofNat 0, .ofNat 4), some (1, .ofNat 0))), (2, .inl ((.negSucc 2147483647, .ofNat 2147483647), some (2, .ofNat 0)))], [], zyh586, 0, 0), [], 0), (zyx433r, zyh586), 66, 7980)
set_option maxRecDepth 100000 in
theorem zyx433c : zchkX [(94, 15)] zprog2 (zovW [zyx432d, zyx426d]) 100000 kX8_sum [zyx427q, zyx421q, zyx415q, zyx409q, zyx403q, zyx397q, zyx391q, zyx385q, zyx379q, zyx373q, zyx367q, zyx361q, zyx355q, zyx349q, zyx343q] [zyx433q] [zyx433q] = true := by decide +kernel
theorem zyx433k {l : Launch} {D : va_G} {tys : List (ClassId × FieldType)} {o : zO} {z : Nat} (E : zEnv tys) : zPtOk l D vwCl tys o z (zXX o z) zTs mX8_sum zyx433q := zkn_pt E (fun g => List.forall_mem_cons.mpr ⟨zyx432 (o := zwith o g) E, List.forall_mem_cons.mpr ⟨zyx426 (o := zwith o g) E, fun _ h => absurd h List.not_mem_nil⟩⟩) (show zget zprog2 284 = some mX8_sum from rfl) (List.forall_mem_cons.mpr ⟨zyx427k E, List.forall_mem_cons.mpr ⟨zyx421k E, List.forall_mem_cons.mpr ⟨zyx415k E, List.forall_mem_cons.mpr ⟨zyx409k E, List.forall_mem_cons.mpr ⟨zyx403k E, List.forall_mem_cons.mpr ⟨zyx397k E, List.forall_mem_cons.mpr ⟨zyx391k E, List.forall_mem_cons.mpr ⟨zyx385k E, List.forall_mem_cons.mpr ⟨zyx379k E, List.forall_mem_cons.mpr ⟨zyx373k E, List.forall_mem_cons.mpr ⟨zyx367k E, List.forall_mem_cons.mpr ⟨zyx361k E, List.forall_mem_cons.mpr ⟨zyx355k E, List.forall_mem_cons.mpr ⟨zyx349k E, List.forall_mem_cons.mpr ⟨zyx343k E, fun _ h => absurd h List.not_mem_nil⟩⟩⟩⟩⟩⟩⟩⟩⟩⟩⟩⟩⟩⟩⟩) zyx433c _ List.mem_cons_self
noncomputable def zyx433d : zKw := (284, 5, 66, 7980, zyx433a, zyh495, [(zyx433r, zyh586)])
set_option maxRecDepth 100000 in
theorem zyx433e : zrunw zprog2 (zovW [zyx432d, zyx426d]) 100000 (zcutW [(94, 15)] none ((zyx433r, zyh586), 66, 7980) [zyx433q, zyx427q, zyx421q, zyx415q, zyx409q, zyx403q, zyx397q, zyx391q, zyx385q, zyx379q, zyx373q, zyx367q, zyx361q, zyx355q, zyx349q, zyx343q]) 66 7980 kX8_sum (zkin zyx433r zyh586) 0 (zargs 0 zyx433a, [], (zyh495.1, zyh495.2.1, 0), 0, 0) = true := by decide +kernel
theorem zyx433 {l : Launch} {D : va_G} {tys : List (ClassId × FieldType)} {o : zO} {z : Nat} (E : zEnv tys) : zKnW l D vwCl tys o z (zXX o z) zTs zprog2 zyx433d :=
  zkn_mk E (fun g => List.forall_mem_cons.mpr ⟨zyx432 (o := zwith o g) E, List.forall_mem_cons.mpr ⟨zyx426 (o := zwith o g) E, fun _ h => absurd h List.not_mem_nil⟩⟩) (show zget zprog2 284 = some mX8_sum from rfl) rfl (by decide) (by decide) (by decide) (by decide) (G := [zyx433q, zyx427q, zyx421q, zyx415q, zyx409q, zyx403q, zyx397q, zyx391q, zyx385q, zyx379q, zyx373q, zyx367q, zyx361q, zyx355q, zyx349q, zyx343q]) (List.forall_mem_cons.mpr ⟨zyx433k E, List.forall_mem_cons.mpr ⟨zyx427k E, List.forall_mem_cons.mpr ⟨zyx421k E, List.forall_mem_cons.mpr ⟨zyx415k E, List.forall_mem_cons.mpr ⟨zyx409k E, List.forall_mem_cons.mpr ⟨zyx403k E, List.forall_mem_cons.mpr ⟨zyx397k E, List.forall_mem_cons.mpr ⟨zyx391k E, List.forall_mem_cons.mpr ⟨zyx385k E, List.forall_mem_cons.mpr ⟨zyx379k E, List.forall_mem_cons.mpr ⟨zyx373k E, List.forall_mem_cons.mpr ⟨zyx367k E, List.forall_mem_cons.mpr ⟨zyx361k E, List.forall_mem_cons.mpr ⟨zyx355k E, List.forall_mem_cons.mpr ⟨zyx349k E, List.forall_mem_cons.mpr ⟨zyx343k E, fun _ h => absurd h List.not_mem_nil⟩⟩⟩⟩⟩⟩⟩⟩⟩⟩⟩⟩⟩⟩⟩⟩) zyx433e
/-! X8_heldBy -/
noncomputable def zyx434a : List zAV := [.inr (.inr (.inl 94)), .inl ((.ofNat 1, .ofNat 4), none)]
def zyx434r : Option zAV := some (.inl ((.negSucc 2147483647, .ofNat 2147483647), none))
noncomputable def zyx434p : List zPw := []
noncomputable def zyx434d : zKw := (229, 3, 67, 8100, zyx434a, zyh495, [(zyx434r, zyh586)])
set_option maxRecDepth 100000 in
theorem zyx434e : zrunw zprog2 (zovW [zyx433d, zyx427d, zyx325d]) 100000 (zcutW [] none ((zyx434r, zyh586), 67, 8100) zyx434p) 67 8100 kX8_heldBy (zkin zyx434r zyh586) 0 (zargs 0 zyx434a, [], (zyh495.1, zyh495.2.1, 0), 0, 0) = true := by decide +kernel
theorem zyx434 {l : Launch} {D : va_G} {tys : List (ClassId × FieldType)} {o : zO} {z : Nat} (E : zEnv tys) : zKnW l D vwCl tys o z (zXX o z) zTs zprog2 zyx434d :=
  zkn_mk E (fun g => List.forall_mem_cons.mpr ⟨zyx433 (o := zwith o g) E, List.forall_mem_cons.mpr ⟨zyx427 (o := zwith o g) E, List.forall_mem_cons.mpr ⟨zyx325 (o := zwith o g) E, fun _ h => absurd h List.not_mem_nil⟩⟩⟩) (show zget zprog2 229 = some mX8_heldBy from rfl) rfl (by decide) (by decide) (by decide) (by decide) (G := zyx434p) (fun _ h => absurd h List.not_mem_nil) zyx434e
/-! X8_oneOf -/
noncomputable def zyx435a : List zAV := [zyv320, zyv362, zyv363]
noncomputable def zyx435q : List (Option zAV × zH) := [(some (.inl ((.ofNat 0, .ofNat 0), none)), zyh587), (some (.inl ((.negSucc 175, .ofNat 79), none)), zyh588)]
noncomputable def zyx435d : zKw := (260, 3, 4, 480, zyx435a, zyh492, zyx435q)
set_option maxRecDepth 100000 in
theorem zyx435e : zrunw zprog2 (zovW []) 100000 zcut0 4 480 kX8_oneOf (zkinL zyx435q) 0 (zargs 0 zyx435a, [], (zyh492.1, zyh492.2.1, 0), 0, 0) = true := by decide +kernel
theorem zyx435 {l : Launch} {D : va_G} {tys : List (ClassId × FieldType)} {o : zO} {z : Nat} (E : zEnv tys) : zKnW l D vwCl tys o z (zXX o z) zTs zprog2 zyx435d :=
  zkn_ml E (fun g => fun _ h => absurd h List.not_mem_nil) (show zget zprog2 260 = some mX8_oneOf from rfl) rfl (by decide) (by decide) (by decide) (by decide) zyx435e
/-! X8_number -/
noncomputable def zyx436a : List zAV := [.inr (.inr (.inl 94)), .inl ((.ofNat 3, .ofNat 3), none)]
def zyx436r : Option zAV := some (.inl ((.negSucc 2147483647, .ofNat 2147483647), none))
noncomputable def zyx436p : List zPw := [((11, ([(0, .inr (.inr (.inl 94))), (1, .inl ((.ofNat 3, .ofNat 3), some (1, .ofNat 0))), (2, .inl ((.negSucc 2147483647, .ofNat 2147483647), some (2, .ofNat 0))), (3, .inl ((.ofNat 1, .ofNat 3), some (3, .ofNat 0)))], [], zyh589, 0, 0), [(3, .negSucc 1)], .ofNat 7), (zyx436r, zyh589), 5, 600)]
noncomputable def zyx436d : zKw := (259, 4, 5, 600, zyx436a, zyh492, [(zyx436r, zyh589)])
set_option maxRecDepth 100000 in
theorem zyx436c : zchkX [] zprog2 (zovW [zyx435d]) 100000 kX8_number [] zyx436p zyx436p = true := by decide +kernel
set_option maxRecDepth 100000 in
theorem zyx436e : zrunw zprog2 (zovW [zyx435d]) 100000 (zcutW [] none ((zyx436r, zyh589), 5, 600) zyx436p) 5 600 kX8_number (zkin zyx436r zyh589) 0 (zargs 0 zyx436a, [], (zyh492.1, zyh492.2.1, 0), 0, 0) = true := by decide +kernel
theorem zyx436 {l : Launch} {D : va_G} {tys : List (ClassId × FieldType)} {o : zO} {z : Nat} (E : zEnv tys) : zKnW l D vwCl tys o z (zXX o z) zTs zprog2 zyx436d :=
  zkn_mk E (fun g => List.forall_mem_cons.mpr ⟨zyx435 (o := zwith o g) E, fun _ h => absurd h List.not_mem_nil⟩) (show zget zprog2 259 = some mX8_number from rfl) rfl (by decide) (by decide) (by decide) (by decide) (G := zyx436p) (zkn_pt E (fun g => List.forall_mem_cons.mpr ⟨zyx435 (o := zwith o g) E, fun _ h => absurd h List.not_mem_nil⟩) (show zget zprog2 259 = some mX8_number from rfl) (fun _ h => absurd h List.not_mem_nil) zyx436c) zyx436e
/-! X8_thing -/
noncomputable def zyx437a : List zAV := [.inr (.inr (.inl 94)), .inl ((.ofNat 0, .ofNat 4), none)]
def zyx437r : Option zAV := some (.inl ((.negSucc 2147483647, .ofNat 2147483647), none))
noncomputable def zyx437p : List zPw := []
noncomputable def zyx437d : zKw := (292, 4, 68, 8220, zyx437a, zyh492, [(zyx437r, zyh589)])
set_option maxRecDepth 100000 in
theorem zyx437e : zrunw zprog2 (zovW [zyx436d, zyx434d, zyx431d, zyx324d, zyx325d]) 100000 (zcutW [] none ((zyx437r, zyh589), 68, 8220) zyx437p) 68 8220 k2X8_thing (zkin zyx437r zyh589) 0 (zargs 0 zyx437a, [], (zyh492.1, zyh492.2.1, 0), 0, 0) = true := by decide +kernel
theorem zyx437 {l : Launch} {D : va_G} {tys : List (ClassId × FieldType)} {o : zO} {z : Nat} (E : zEnv tys) : zKnW l D vwCl tys o z (zXX o z) zTs zprog2 zyx437d :=
  zkn_mk E (fun g => List.forall_mem_cons.mpr ⟨zyx436 (o := zwith o g) E, List.forall_mem_cons.mpr ⟨zyx434 (o := zwith o g) E, List.forall_mem_cons.mpr ⟨zyx431 (o := zwith o g) E, List.forall_mem_cons.mpr ⟨zyx324 (o := zwith o g) E, List.forall_mem_cons.mpr ⟨zyx325 (o := zwith o g) E, fun _ h => absurd h List.not_mem_nil⟩⟩⟩⟩⟩) (show zget zprog2 292 = some m2X8_thing from rfl) rfl (by decide) (by decide) (by decide) (by decide) (G := zyx437p) (fun _ h => absurd h List.not_mem_nil) zyx437e
/-! X8_product ((('r', 102), 40, 24),) -/
noncomputable def zyx438a : List zAV := [.inr (.inr (.inl 94)), .inl ((.ofNat 0, .ofNat 4), none)]
def zyx438r : Option zAV := some (.inl ((.negSucc 2147483647, .ofNat 2147483647), none))
noncomputable def zyx438q : zPw := ((6, ([(0, .inr (.inr (.inl 94))), (1, .inl ((.ofNat 0, .ofNat 4), some (1, .ofNat 0))), (2, .inl ((.negSucc 2147483647, .ofNat 2147483647), some (2, .ofNat 0)))], [], zyh589, 0, 0), [], 0), (zyx438r, zyh589), 69, 8340)
set_option maxRecDepth 100000 in
theorem zyx438c : zchkX [(94, 15)] zprog2 (zovW [zyx437d, zyx431d]) 100000 k2X8_product [zyx432q, zyx426q, zyx420q, zyx414q, zyx408q, zyx402q, zyx396q, zyx390q, zyx384q, zyx378q, zyx372q, zyx366q, zyx360q, zyx354q, zyx348q, zyx342q] [zyx438q] [zyx438q] = true := by decide +kernel
theorem zyx438k {l : Launch} {D : va_G} {tys : List (ClassId × FieldType)} {o : zO} {z : Nat} (E : zEnv tys) : zPtOk l D vwCl tys o z (zXX o z) zTs m2X8_product zyx438q := zkn_pt E (fun g => List.forall_mem_cons.mpr ⟨zyx437 (o := zwith o g) E, List.forall_mem_cons.mpr ⟨zyx431 (o := zwith o g) E, fun _ h => absurd h List.not_mem_nil⟩⟩) (show zget zprog2 265 = some m2X8_product from rfl) (List.forall_mem_cons.mpr ⟨zyx432k E, List.forall_mem_cons.mpr ⟨zyx426k E, List.forall_mem_cons.mpr ⟨zyx420k E, List.forall_mem_cons.mpr ⟨zyx414k E, List.forall_mem_cons.mpr ⟨zyx408k E, List.forall_mem_cons.mpr ⟨zyx402k E, List.forall_mem_cons.mpr ⟨zyx396k E, List.forall_mem_cons.mpr ⟨zyx390k E, List.forall_mem_cons.mpr ⟨zyx384k E, List.forall_mem_cons.mpr ⟨zyx378k E, List.forall_mem_cons.mpr ⟨zyx372k E, List.forall_mem_cons.mpr ⟨zyx366k E, List.forall_mem_cons.mpr ⟨zyx360k E, List.forall_mem_cons.mpr ⟨zyx354k E, List.forall_mem_cons.mpr ⟨zyx348k E, List.forall_mem_cons.mpr ⟨zyx342k E, fun _ h => absurd h List.not_mem_nil⟩⟩⟩⟩⟩⟩⟩⟩⟩⟩⟩⟩⟩⟩⟩⟩) zyx438c _ List.mem_cons_self
noncomputable def zyx438d : zKw := (265, 5, 69, 8340, zyx438a, zyh492, [(zyx438r, zyh589)])
set_option maxRecDepth 100000 in
theorem zyx438e : zrunw zprog2 (zovW [zyx437d, zyx431d]) 100000 (zcutW [(94, 15)] none ((zyx438r, zyh589), 69, 8340) [zyx438q, zyx432q, zyx426q, zyx420q, zyx414q, zyx408q, zyx402q, zyx396q, zyx390q, zyx384q, zyx378q, zyx372q, zyx366q, zyx360q, zyx354q, zyx348q, zyx342q]) 69 8340 k2X8_product (zkin zyx438r zyh589) 0 (zargs 0 zyx438a, [], (zyh492.1, zyh492.2.1, 0), 0, 0) = true := by decide +kernel
theorem zyx438 {l : Launch} {D : va_G} {tys : List (ClassId × FieldType)} {o : zO} {z : Nat} (E : zEnv tys) : zKnW l D vwCl tys o z (zXX o z) zTs zprog2 zyx438d :=
  zkn_mk E (fun g => List.forall_mem_cons.mpr ⟨zyx437 (o := zwith o g) E, List.forall_mem_cons.mpr ⟨zyx431 (o := zwith o g) E, fun _ h => absurd h List.not_mem_nil⟩⟩) (show zget zprog2 265 = some m2X8_product from rfl) rfl (by decide) (by decide) (by decide) (by decide) (G := [zyx438q, zyx432q, zyx426q, zyx420q, zyx414q, zyx408q, zyx402q, zyx396q, zyx390q, zyx384q, zyx378q, zyx372q, zyx366q, zyx360q, zyx354q, zyx348q, zyx342q]) (List.forall_mem_cons.mpr ⟨zyx438k E, List.forall_mem_cons.mpr ⟨zyx432k E, List.forall_mem_cons.mpr ⟨zyx426k E, List.forall_mem_cons.mpr ⟨zyx420k E, List.forall_mem_cons.mpr ⟨zyx414k E, List.forall_mem_cons.mpr ⟨zyx408k E, List.forall_mem_cons.mpr ⟨zyx402k E, List.forall_mem_cons.mpr ⟨zyx396k E, List.forall_mem_cons.mpr ⟨zyx390k E, List.forall_mem_cons.mpr ⟨zyx384k E, List.forall_mem_cons.mpr ⟨zyx378k E, List.forall_mem_cons.mpr ⟨zyx372k E, List.forall_mem_cons.mpr ⟨zyx366k E, List.forall_mem_cons.mpr ⟨zyx360k E, List.forall_mem_cons.mpr ⟨zyx354k E, List.forall_mem_cons.mpr ⟨zyx348k E, List.forall_mem_cons.mpr ⟨zyx342k E, fun _ h => absurd h List.not_mem_nil⟩⟩⟩⟩⟩⟩⟩⟩⟩⟩⟩⟩⟩⟩⟩⟩⟩) zyx438e
/-! X8_sum ((('r', 102), 40, 24),) -/
noncomputable def zyx439a : List zAV := [.inr (.inr (.inl 94)), .inl ((.ofNat 1, .ofNat 4), none)]
def zyx439r : Option zAV := some (.inl ((.negSucc 2147483647, .ofNat 2147483647), none))
noncomputable def zyx439q : zPw := ((6, ([(0, .inr (.inr (.inl 94))), (1, .inl ((.ofNat 0, .ofNat 4), some (1, .ofNat 0))), (2, .inl ((.negSucc 2147483647, .ofNat 2147483647), some (2, .ofNat 0)))], [], zyh589, 0, 0), [], 0), (zyx439r, zyh589), 70, 8460)
set_option maxRecDepth 100000 in
theorem zyx439c : zchkX [(94, 15)] zprog2 (zovW [zyx438d, zyx432d]) 100000 kX8_sum [zyx433q, zyx427q, zyx421q, zyx415q, zyx409q, zyx403q, zyx397q, zyx391q, zyx385q, zyx379q, zyx373q, zyx367q, zyx361q, zyx355q, zyx349q, zyx343q] [zyx439q] [zyx439q] = true := by decide +kernel
theorem zyx439k {l : Launch} {D : va_G} {tys : List (ClassId × FieldType)} {o : zO} {z : Nat} (E : zEnv tys) : zPtOk l D vwCl tys o z (zXX o z) zTs mX8_sum zyx439q := zkn_pt E (fun g => List.forall_mem_cons.mpr ⟨zyx438 (o := zwith o g) E, List.forall_mem_cons.mpr ⟨zyx432 (o := zwith o g) E, fun _ h => absurd h List.not_mem_nil⟩⟩) (show zget zprog2 284 = some mX8_sum from rfl) (List.forall_mem_cons.mpr ⟨zyx433k E, List.forall_mem_cons.mpr ⟨zyx427k E, List.forall_mem_cons.mpr ⟨zyx421k E, List.forall_mem_cons.mpr ⟨zyx415k E, List.forall_mem_cons.mpr ⟨zyx409k E, List.forall_mem_cons.mpr ⟨zyx403k E, List.forall_mem_cons.mpr ⟨zyx397k E, List.forall_mem_cons.mpr ⟨zyx391k E, List.forall_mem_cons.mpr ⟨zyx385k E, List.forall_mem_cons.mpr ⟨zyx379k E, List.forall_mem_cons.mpr ⟨zyx373k E, List.forall_mem_cons.mpr ⟨zyx367k E, List.forall_mem_cons.mpr ⟨zyx361k E, List.forall_mem_cons.mpr ⟨zyx355k E, List.forall_mem_cons.mpr ⟨zyx349k E, List.forall_mem_cons.mpr ⟨zyx343k E, fun _ h => absurd h List.not_mem_nil⟩⟩⟩⟩⟩⟩⟩⟩⟩⟩⟩⟩⟩⟩⟩⟩) zyx439c _ List.mem_cons_self
noncomputable def zyx439d : zKw := (284, 5, 70, 8460, zyx439a, zyh492, [(zyx439r, zyh589)])
set_option maxRecDepth 100000 in
theorem zyx439e : zrunw zprog2 (zovW [zyx438d, zyx432d]) 100000 (zcutW [(94, 15)] none ((zyx439r, zyh589), 70, 8460) [zyx439q, zyx433q, zyx427q, zyx421q, zyx415q, zyx409q, zyx403q, zyx397q, zyx391q, zyx385q, zyx379q, zyx373q, zyx367q, zyx361q, zyx355q, zyx349q, zyx343q]) 70 8460 kX8_sum (zkin zyx439r zyh589) 0 (zargs 0 zyx439a, [], (zyh492.1, zyh492.2.1, 0), 0, 0) = true := by decide +kernel
theorem zyx439 {l : Launch} {D : va_G} {tys : List (ClassId × FieldType)} {o : zO} {z : Nat} (E : zEnv tys) : zKnW l D vwCl tys o z (zXX o z) zTs zprog2 zyx439d :=
  zkn_mk E (fun g => List.forall_mem_cons.mpr ⟨zyx438 (o := zwith o g) E, List.forall_mem_cons.mpr ⟨zyx432 (o := zwith o g) E, fun _ h => absurd h List.not_mem_nil⟩⟩) (show zget zprog2 284 = some mX8_sum from rfl) rfl (by decide) (by decide) (by decide) (by decide) (G := [zyx439q, zyx433q, zyx427q, zyx421q, zyx415q, zyx409q, zyx403q, zyx397q, zyx391q, zyx385q, zyx379q, zyx373q, zyx367q, zyx361q, zyx355q, zyx349q, zyx343q]) (List.forall_mem_cons.mpr ⟨zyx439k E, List.forall_mem_cons.mpr ⟨zyx433k E, List.forall_mem_cons.mpr ⟨zyx427k E, List.forall_mem_cons.mpr ⟨zyx421k E, List.forall_mem_cons.mpr ⟨zyx415k E, List.forall_mem_cons.mpr ⟨zyx409k E, List.forall_mem_cons.mpr ⟨zyx403k E, List.forall_mem_cons.mpr ⟨zyx397k E, List.forall_mem_cons.mpr ⟨zyx391k E, List.forall_mem_cons.mpr ⟨zyx385k E, List.forall_mem_cons.mpr ⟨zyx379k E, List.forall_mem_cons.mpr ⟨zyx373k E, List.forall_mem_cons.mpr ⟨zyx367k E, List.forall_mem_cons.mpr ⟨zyx361k E, List.forall_mem_cons.mpr ⟨zyx355k E, List.forall_mem_cons.mpr ⟨zyx349k E, List.forall_mem_cons.mpr ⟨zyx343k E, fun _ h => absurd h List.not_mem_nil⟩⟩⟩⟩⟩⟩⟩⟩⟩⟩⟩⟩⟩⟩⟩⟩⟩) zyx439e
/-! X8_heldBy -/
noncomputable def zyx440a : List zAV := [.inr (.inr (.inl 94)), .inl ((.ofNat 1, .ofNat 4), none)]
def zyx440r : Option zAV := some (.inl ((.negSucc 2147483647, .ofNat 2147483647), none))
noncomputable def zyx440p : List zPw := []
noncomputable def zyx440d : zKw := (229, 3, 71, 8580, zyx440a, zyh492, [(zyx440r, zyh589)])
set_option maxRecDepth 100000 in
theorem zyx440e : zrunw zprog2 (zovW [zyx439d, zyx433d, zyx324d]) 100000 (zcutW [] none ((zyx440r, zyh589), 71, 8580) zyx440p) 71 8580 kX8_heldBy (zkin zyx440r zyh589) 0 (zargs 0 zyx440a, [], (zyh492.1, zyh492.2.1, 0), 0, 0) = true := by decide +kernel
theorem zyx440 {l : Launch} {D : va_G} {tys : List (ClassId × FieldType)} {o : zO} {z : Nat} (E : zEnv tys) : zKnW l D vwCl tys o z (zXX o z) zTs zprog2 zyx440d :=
  zkn_mk E (fun g => List.forall_mem_cons.mpr ⟨zyx439 (o := zwith o g) E, List.forall_mem_cons.mpr ⟨zyx433 (o := zwith o g) E, List.forall_mem_cons.mpr ⟨zyx324 (o := zwith o g) E, fun _ h => absurd h List.not_mem_nil⟩⟩⟩) (show zget zprog2 229 = some mX8_heldBy from rfl) rfl (by decide) (by decide) (by decide) (by decide) (G := zyx440p) (fun _ h => absurd h List.not_mem_nil) zyx440e
/-! X8_oneOf -/
noncomputable def zyx441a : List zAV := [zyv320, zyv362, zyv363]
noncomputable def zyx441q : List (Option zAV × zH) := [(some (.inl ((.ofNat 0, .ofNat 0), none)), zyh590), (some (.inl ((.negSucc 175, .ofNat 79), none)), zyh591)]
noncomputable def zyx441d : zKw := (260, 3, 4, 480, zyx441a, zyh489, zyx441q)
set_option maxRecDepth 100000 in
theorem zyx441e : zrunw zprog2 (zovW []) 100000 zcut0 4 480 kX8_oneOf (zkinL zyx441q) 0 (zargs 0 zyx441a, [], (zyh489.1, zyh489.2.1, 0), 0, 0) = true := by decide +kernel
theorem zyx441 {l : Launch} {D : va_G} {tys : List (ClassId × FieldType)} {o : zO} {z : Nat} (E : zEnv tys) : zKnW l D vwCl tys o z (zXX o z) zTs zprog2 zyx441d :=
  zkn_ml E (fun g => fun _ h => absurd h List.not_mem_nil) (show zget zprog2 260 = some mX8_oneOf from rfl) rfl (by decide) (by decide) (by decide) (by decide) zyx441e
/-! X8_number -/
noncomputable def zyx442a : List zAV := [.inr (.inr (.inl 94)), .inl ((.ofNat 3, .ofNat 3), none)]
def zyx442r : Option zAV := some (.inl ((.negSucc 2147483647, .ofNat 2147483647), none))
noncomputable def zyx442p : List zPw := [((11, ([(0, .inr (.inr (.inl 94))), (1, .inl ((.ofNat 3, .ofNat 3), some (1, .ofNat 0))), (2, .inl ((.negSucc 2147483647, .ofNat 2147483647), some (2, .ofNat 0))), (3, .inl ((.ofNat 1, .ofNat 3), some (3, .ofNat 0)))], [], zyh592, 0, 0), [(3, .negSucc 1)], .ofNat 7), (zyx442r, zyh592), 5, 600)]
noncomputable def zyx442d : zKw := (259, 4, 5, 600, zyx442a, zyh489, [(zyx442r, zyh592)])
set_option maxRecDepth 100000 in
theorem zyx442c : zchkX [] zprog2 (zovW [zyx441d]) 100000 kX8_number [] zyx442p zyx442p = true := by decide +kernel
set_option maxRecDepth 100000 in
theorem zyx442e : zrunw zprog2 (zovW [zyx441d]) 100000 (zcutW [] none ((zyx442r, zyh592), 5, 600) zyx442p) 5 600 kX8_number (zkin zyx442r zyh592) 0 (zargs 0 zyx442a, [], (zyh489.1, zyh489.2.1, 0), 0, 0) = true := by decide +kernel
theorem zyx442 {l : Launch} {D : va_G} {tys : List (ClassId × FieldType)} {o : zO} {z : Nat} (E : zEnv tys) : zKnW l D vwCl tys o z (zXX o z) zTs zprog2 zyx442d :=
  zkn_mk E (fun g => List.forall_mem_cons.mpr ⟨zyx441 (o := zwith o g) E, fun _ h => absurd h List.not_mem_nil⟩) (show zget zprog2 259 = some mX8_number from rfl) rfl (by decide) (by decide) (by decide) (by decide) (G := zyx442p) (zkn_pt E (fun g => List.forall_mem_cons.mpr ⟨zyx441 (o := zwith o g) E, fun _ h => absurd h List.not_mem_nil⟩) (show zget zprog2 259 = some mX8_number from rfl) (fun _ h => absurd h List.not_mem_nil) zyx442c) zyx442e
/-! X8_thing -/
noncomputable def zyx443a : List zAV := [.inr (.inr (.inl 94)), .inl ((.ofNat 0, .ofNat 4), none)]
def zyx443r : Option zAV := some (.inl ((.negSucc 2147483647, .ofNat 2147483647), none))
noncomputable def zyx443p : List zPw := []
noncomputable def zyx443d : zKw := (292, 4, 72, 8700, zyx443a, zyh489, [(zyx443r, zyh592)])
set_option maxRecDepth 100000 in
theorem zyx443e : zrunw zprog2 (zovW [zyx442d, zyx440d, zyx437d, zyx323d, zyx324d]) 100000 (zcutW [] none ((zyx443r, zyh592), 72, 8700) zyx443p) 72 8700 k2X8_thing (zkin zyx443r zyh592) 0 (zargs 0 zyx443a, [], (zyh489.1, zyh489.2.1, 0), 0, 0) = true := by decide +kernel
theorem zyx443 {l : Launch} {D : va_G} {tys : List (ClassId × FieldType)} {o : zO} {z : Nat} (E : zEnv tys) : zKnW l D vwCl tys o z (zXX o z) zTs zprog2 zyx443d :=
  zkn_mk E (fun g => List.forall_mem_cons.mpr ⟨zyx442 (o := zwith o g) E, List.forall_mem_cons.mpr ⟨zyx440 (o := zwith o g) E, List.forall_mem_cons.mpr ⟨zyx437 (o := zwith o g) E, List.forall_mem_cons.mpr ⟨zyx323 (o := zwith o g) E, List.forall_mem_cons.mpr ⟨zyx324 (o := zwith o g) E, fun _ h => absurd h List.not_mem_nil⟩⟩⟩⟩⟩) (show zget zprog2 292 = some m2X8_thing from rfl) rfl (by decide) (by decide) (by decide) (by decide) (G := zyx443p) (fun _ h => absurd h List.not_mem_nil) zyx443e
/-! X8_product ((('r', 102), 40, 23),) -/
noncomputable def zyx444a : List zAV := [.inr (.inr (.inl 94)), .inl ((.ofNat 0, .ofNat 4), none)]
def zyx444r : Option zAV := some (.inl ((.negSucc 2147483647, .ofNat 2147483647), none))
noncomputable def zyx444q : zPw := ((6, ([(0, .inr (.inr (.inl 94))), (1, .inl ((.ofNat 0, .ofNat 4), some (1, .ofNat 0))), (2, .inl ((.negSucc 2147483647, .ofNat 2147483647), some (2, .ofNat 0)))], [], zyh592, 0, 0), [], 0), (zyx444r, zyh592), 73, 8820)
set_option maxRecDepth 100000 in
theorem zyx444c : zchkX [(94, 15)] zprog2 (zovW [zyx443d, zyx437d]) 100000 k2X8_product [zyx438q, zyx432q, zyx426q, zyx420q, zyx414q, zyx408q, zyx402q, zyx396q, zyx390q, zyx384q, zyx378q, zyx372q, zyx366q, zyx360q, zyx354q, zyx348q, zyx342q] [zyx444q] [zyx444q] = true := by decide +kernel
theorem zyx444k {l : Launch} {D : va_G} {tys : List (ClassId × FieldType)} {o : zO} {z : Nat} (E : zEnv tys) : zPtOk l D vwCl tys o z (zXX o z) zTs m2X8_product zyx444q := zkn_pt E (fun g => List.forall_mem_cons.mpr ⟨zyx443 (o := zwith o g) E, List.forall_mem_cons.mpr ⟨zyx437 (o := zwith o g) E, fun _ h => absurd h List.not_mem_nil⟩⟩) (show zget zprog2 265 = some m2X8_product from rfl) (List.forall_mem_cons.mpr ⟨zyx438k E, List.forall_mem_cons.mpr ⟨zyx432k E, List.forall_mem_cons.mpr ⟨zyx426k E, List.forall_mem_cons.mpr ⟨zyx420k E, List.forall_mem_cons.mpr ⟨zyx414k E, List.forall_mem_cons.mpr ⟨zyx408k E, List.forall_mem_cons.mpr ⟨zyx402k E, List.forall_mem_cons.mpr ⟨zyx396k E, List.forall_mem_cons.mpr ⟨zyx390k E, List.forall_mem_cons.mpr ⟨zyx384k E, List.forall_mem_cons.mpr ⟨zyx378k E, List.forall_mem_cons.mpr ⟨zyx372k E, List.forall_mem_cons.mpr ⟨zyx366k E, List.forall_mem_cons.mpr ⟨zyx360k E, List.forall_mem_cons.mpr ⟨zyx354k E, List.forall_mem_cons.mpr ⟨zyx348k E, List.forall_mem_cons.mpr ⟨zyx342k E, fun _ h => absurd h List.not_mem_nil⟩⟩⟩⟩⟩⟩⟩⟩⟩⟩⟩⟩⟩⟩⟩⟩⟩) zyx444c _ List.mem_cons_self
noncomputable def zyx444d : zKw := (265, 5, 73, 8820, zyx444a, zyh489, [(zyx444r, zyh592)])
set_option maxRecDepth 100000 in
theorem zyx444e : zrunw zprog2 (zovW [zyx443d, zyx437d]) 100000 (zcutW [(94, 15)] none ((zyx444r, zyh592), 73, 8820) [zyx444q, zyx438q, zyx432q, zyx426q, zyx420q, zyx414q, zyx408q, zyx402q, zyx396q, zyx390q, zyx384q, zyx378q, zyx372q, zyx366q, zyx360q, zyx354q, zyx348q, zyx342q]) 73 8820 k2X8_product (zkin zyx444r zyh592) 0 (zargs 0 zyx444a, [], (zyh489.1, zyh489.2.1, 0), 0, 0) = true := by decide +kernel
theorem zyx444 {l : Launch} {D : va_G} {tys : List (ClassId × FieldType)} {o : zO} {z : Nat} (E : zEnv tys) : zKnW l D vwCl tys o z (zXX o z) zTs zprog2 zyx444d :=
  zkn_mk E (fun g => List.forall_mem_cons.mpr ⟨zyx443 (o := zwith o g) E, List.forall_mem_cons.mpr ⟨zyx437 (o := zwith o g) E, fun _ h => absurd h List.not_mem_nil⟩⟩) (show zget zprog2 265 = some m2X8_product from rfl) rfl (by decide) (by decide) (by decide) (by decide) (G := [zyx444q, zyx438q, zyx432q, zyx426q, zyx420q, zyx414q, zyx408q, zyx402q, zyx396q, zyx390q, zyx384q, zyx378q, zyx372q, zyx366q, zyx360q, zyx354q, zyx348q, zyx342q]) (List.forall_mem_cons.mpr ⟨zyx444k E, List.forall_mem_cons.mpr ⟨zyx438k E, List.forall_mem_cons.mpr ⟨zyx432k E, List.forall_mem_cons.mpr ⟨zyx426k E, List.forall_mem_cons.mpr ⟨zyx420k E, List.forall_mem_cons.mpr ⟨zyx414k E, List.forall_mem_cons.mpr ⟨zyx408k E, List.forall_mem_cons.mpr ⟨zyx402k E, List.forall_mem_cons.mpr ⟨zyx396k E, List.forall_mem_cons.mpr ⟨zyx390k E, List.forall_mem_cons.mpr ⟨zyx384k E, List.forall_mem_cons.mpr ⟨zyx378k E, List.forall_mem_cons.mpr ⟨zyx372k E, List.forall_mem_cons.mpr ⟨zyx366k E, List.forall_mem_cons.mpr ⟨zyx360k E, List.forall_mem_cons.mpr ⟨zyx354k E, List.forall_mem_cons.mpr ⟨zyx348k E, List.forall_mem_cons.mpr ⟨zyx342k E, fun _ h => absurd h List.not_mem_nil⟩⟩⟩⟩⟩⟩⟩⟩⟩⟩⟩⟩⟩⟩⟩⟩⟩⟩) zyx444e
/-! X8_sum ((('r', 102), 40, 23),) -/
noncomputable def zyx445a : List zAV := [.inr (.inr (.inl 94)), .inl ((.ofNat 1, .ofNat 4), none)]
def zyx445r : Option zAV := some (.inl ((.negSucc 2147483647, .ofNat 2147483647), none))
noncomputable def zyx445q : zPw := ((6, ([(0, .inr (.inr (.inl 94))), (1, .inl ((.ofNat 0, .ofNat 4), some (1, .ofNat 0))), (2, .inl ((.negSucc 2147483647, .ofNat 2147483647), some (2, .ofNat 0)))], [], zyh592, 0, 0), [], 0), (zyx445r, zyh592), 74, 8940)
set_option maxRecDepth 100000 in
theorem zyx445c : zchkX [(94, 15)] zprog2 (zovW [zyx444d, zyx438d]) 100000 kX8_sum [zyx439q, zyx433q, zyx427q, zyx421q, zyx415q, zyx409q, zyx403q, zyx397q, zyx391q, zyx385q, zyx379q, zyx373q, zyx367q, zyx361q, zyx355q, zyx349q, zyx343q] [zyx445q] [zyx445q] = true := by decide +kernel
theorem zyx445k {l : Launch} {D : va_G} {tys : List (ClassId × FieldType)} {o : zO} {z : Nat} (E : zEnv tys) : zPtOk l D vwCl tys o z (zXX o z) zTs mX8_sum zyx445q := zkn_pt E (fun g => List.forall_mem_cons.mpr ⟨zyx444 (o := zwith o g) E, List.forall_mem_cons.mpr ⟨zyx438 (o := zwith o g) E, fun _ h => absurd h List.not_mem_nil⟩⟩) (show zget zprog2 284 = some mX8_sum from rfl) (List.forall_mem_cons.mpr ⟨zyx439k E, List.forall_mem_cons.mpr ⟨zyx433k E, List.forall_mem_cons.mpr ⟨zyx427k E, List.forall_mem_cons.mpr ⟨zyx421k E, List.forall_mem_cons.mpr ⟨zyx415k E, List.forall_mem_cons.mpr ⟨zyx409k E, List.forall_mem_cons.mpr ⟨zyx403k E, List.forall_mem_cons.mpr ⟨zyx397k E, List.forall_mem_cons.mpr ⟨zyx391k E, List.forall_mem_cons.mpr ⟨zyx385k E, List.forall_mem_cons.mpr ⟨zyx379k E, List.forall_mem_cons.mpr ⟨zyx373k E, List.forall_mem_cons.mpr ⟨zyx367k E, List.forall_mem_cons.mpr ⟨zyx361k E, List.forall_mem_cons.mpr ⟨zyx355k E, List.forall_mem_cons.mpr ⟨zyx349k E, List.forall_mem_cons.mpr ⟨zyx343k E, fun _ h => absurd h List.not_mem_nil⟩⟩⟩⟩⟩⟩⟩⟩⟩⟩⟩⟩⟩⟩⟩⟩⟩) zyx445c _ List.mem_cons_self
noncomputable def zyx445d : zKw := (284, 5, 74, 8940, zyx445a, zyh489, [(zyx445r, zyh592)])
set_option maxRecDepth 100000 in
theorem zyx445e : zrunw zprog2 (zovW [zyx444d, zyx438d]) 100000 (zcutW [(94, 15)] none ((zyx445r, zyh592), 74, 8940) [zyx445q, zyx439q, zyx433q, zyx427q, zyx421q, zyx415q, zyx409q, zyx403q, zyx397q, zyx391q, zyx385q, zyx379q, zyx373q, zyx367q, zyx361q, zyx355q, zyx349q, zyx343q]) 74 8940 kX8_sum (zkin zyx445r zyh592) 0 (zargs 0 zyx445a, [], (zyh489.1, zyh489.2.1, 0), 0, 0) = true := by decide +kernel
theorem zyx445 {l : Launch} {D : va_G} {tys : List (ClassId × FieldType)} {o : zO} {z : Nat} (E : zEnv tys) : zKnW l D vwCl tys o z (zXX o z) zTs zprog2 zyx445d :=
  zkn_mk E (fun g => List.forall_mem_cons.mpr ⟨zyx444 (o := zwith o g) E, List.forall_mem_cons.mpr ⟨zyx438 (o := zwith o g) E, fun _ h => absurd h List.not_mem_nil⟩⟩) (show zget zprog2 284 = some mX8_sum from rfl) rfl (by decide) (by decide) (by decide) (by decide) (G := [zyx445q, zyx439q, zyx433q, zyx427q, zyx421q, zyx415q, zyx409q, zyx403q, zyx397q, zyx391q, zyx385q, zyx379q, zyx373q, zyx367q, zyx361q, zyx355q, zyx349q, zyx343q]) (List.forall_mem_cons.mpr ⟨zyx445k E, List.forall_mem_cons.mpr ⟨zyx439k E, List.forall_mem_cons.mpr ⟨zyx433k E, List.forall_mem_cons.mpr ⟨zyx427k E, List.forall_mem_cons.mpr ⟨zyx421k E, List.forall_mem_cons.mpr ⟨zyx415k E, List.forall_mem_cons.mpr ⟨zyx409k E, List.forall_mem_cons.mpr ⟨zyx403k E, List.forall_mem_cons.mpr ⟨zyx397k E, List.forall_mem_cons.mpr ⟨zyx391k E, List.forall_mem_cons.mpr ⟨zyx385k E, List.forall_mem_cons.mpr ⟨zyx379k E, List.forall_mem_cons.mpr ⟨zyx373k E, List.forall_mem_cons.mpr ⟨zyx367k E, List.forall_mem_cons.mpr ⟨zyx361k E, List.forall_mem_cons.mpr ⟨zyx355k E, List.forall_mem_cons.mpr ⟨zyx349k E, List.forall_mem_cons.mpr ⟨zyx343k E, fun _ h => absurd h List.not_mem_nil⟩⟩⟩⟩⟩⟩⟩⟩⟩⟩⟩⟩⟩⟩⟩⟩⟩⟩) zyx445e
/-! X8_heldBy -/
noncomputable def zyx446a : List zAV := [.inr (.inr (.inl 94)), .inl ((.ofNat 1, .ofNat 4), none)]
def zyx446r : Option zAV := some (.inl ((.negSucc 2147483647, .ofNat 2147483647), none))
noncomputable def zyx446p : List zPw := []
noncomputable def zyx446d : zKw := (229, 3, 75, 9060, zyx446a, zyh489, [(zyx446r, zyh592)])
set_option maxRecDepth 100000 in
theorem zyx446e : zrunw zprog2 (zovW [zyx445d, zyx439d, zyx323d]) 100000 (zcutW [] none ((zyx446r, zyh592), 75, 9060) zyx446p) 75 9060 kX8_heldBy (zkin zyx446r zyh592) 0 (zargs 0 zyx446a, [], (zyh489.1, zyh489.2.1, 0), 0, 0) = true := by decide +kernel
theorem zyx446 {l : Launch} {D : va_G} {tys : List (ClassId × FieldType)} {o : zO} {z : Nat} (E : zEnv tys) : zKnW l D vwCl tys o z (zXX o z) zTs zprog2 zyx446d :=
  zkn_mk E (fun g => List.forall_mem_cons.mpr ⟨zyx445 (o := zwith o g) E, List.forall_mem_cons.mpr ⟨zyx439 (o := zwith o g) E, List.forall_mem_cons.mpr ⟨zyx323 (o := zwith o g) E, fun _ h => absurd h List.not_mem_nil⟩⟩⟩) (show zget zprog2 229 = some mX8_heldBy from rfl) rfl (by decide) (by decide) (by decide) (by decide) (G := zyx446p) (fun _ h => absurd h List.not_mem_nil) zyx446e
/-! X8_oneOf -/
noncomputable def zyx447a : List zAV := [zyv320, zyv362, zyv363]
noncomputable def zyx447q : List (Option zAV × zH) := [(some (.inl ((.ofNat 0, .ofNat 0), none)), zyh593), (some (.inl ((.negSucc 175, .ofNat 79), none)), zyh594)]
noncomputable def zyx447d : zKw := (260, 3, 4, 480, zyx447a, zyh486, zyx447q)
set_option maxRecDepth 100000 in
theorem zyx447e : zrunw zprog2 (zovW []) 100000 zcut0 4 480 kX8_oneOf (zkinL zyx447q) 0 (zargs 0 zyx447a, [], (zyh486.1, zyh486.2.1, 0), 0, 0) = true := by decide +kernel
theorem zyx447 {l : Launch} {D : va_G} {tys : List (ClassId × FieldType)} {o : zO} {z : Nat} (E : zEnv tys) : zKnW l D vwCl tys o z (zXX o z) zTs zprog2 zyx447d :=
  zkn_ml E (fun g => fun _ h => absurd h List.not_mem_nil) (show zget zprog2 260 = some mX8_oneOf from rfl) rfl (by decide) (by decide) (by decide) (by decide) zyx447e
/-! X8_number -/
noncomputable def zyx448a : List zAV := [.inr (.inr (.inl 94)), .inl ((.ofNat 3, .ofNat 3), none)]
def zyx448r : Option zAV := some (.inl ((.negSucc 2147483647, .ofNat 2147483647), none))
noncomputable def zyx448p : List zPw := [((11, ([(0, .inr (.inr (.inl 94))), (1, .inl ((.ofNat 3, .ofNat 3), some (1, .ofNat 0))), (2, .inl ((.negSucc 2147483647, .ofNat 2147483647), some (2, .ofNat 0))), (3, .inl ((.ofNat 1, .ofNat 3), some (3, .ofNat 0)))], [], zyh595, 0, 0), [(3, .negSucc 1)], .ofNat 7), (zyx448r, zyh595), 5, 600)]
noncomputable def zyx448d : zKw := (259, 4, 5, 600, zyx448a, zyh486, [(zyx448r, zyh595)])
set_option maxRecDepth 100000 in
theorem zyx448c : zchkX [] zprog2 (zovW [zyx447d]) 100000 kX8_number [] zyx448p zyx448p = true := by decide +kernel
set_option maxRecDepth 100000 in
theorem zyx448e : zrunw zprog2 (zovW [zyx447d]) 100000 (zcutW [] none ((zyx448r, zyh595), 5, 600) zyx448p) 5 600 kX8_number (zkin zyx448r zyh595) 0 (zargs 0 zyx448a, [], (zyh486.1, zyh486.2.1, 0), 0, 0) = true := by decide +kernel
theorem zyx448 {l : Launch} {D : va_G} {tys : List (ClassId × FieldType)} {o : zO} {z : Nat} (E : zEnv tys) : zKnW l D vwCl tys o z (zXX o z) zTs zprog2 zyx448d :=
  zkn_mk E (fun g => List.forall_mem_cons.mpr ⟨zyx447 (o := zwith o g) E, fun _ h => absurd h List.not_mem_nil⟩) (show zget zprog2 259 = some mX8_number from rfl) rfl (by decide) (by decide) (by decide) (by decide) (G := zyx448p) (zkn_pt E (fun g => List.forall_mem_cons.mpr ⟨zyx447 (o := zwith o g) E, fun _ h => absurd h List.not_mem_nil⟩) (show zget zprog2 259 = some mX8_number from rfl) (fun _ h => absurd h List.not_mem_nil) zyx448c) zyx448e
/-! X8_thing -/
noncomputable def zyx449a : List zAV := [.inr (.inr (.inl 94)), .inl ((.ofNat 0, .ofNat 4), none)]
def zyx449r : Option zAV := some (.inl ((.negSucc 2147483647, .ofNat 2147483647), none))
noncomputable def zyx449p : List zPw := []
noncomputable def zyx449d : zKw := (292, 4, 76, 9180, zyx449a, zyh486, [(zyx449r, zyh595)])
set_option maxRecDepth 100000 in
theorem zyx449e : zrunw zprog2 (zovW [zyx448d, zyx446d, zyx443d, zyx322d, zyx323d]) 100000 (zcutW [] none ((zyx449r, zyh595), 76, 9180) zyx449p) 76 9180 k2X8_thing (zkin zyx449r zyh595) 0 (zargs 0 zyx449a, [], (zyh486.1, zyh486.2.1, 0), 0, 0) = true := by decide +kernel
theorem zyx449 {l : Launch} {D : va_G} {tys : List (ClassId × FieldType)} {o : zO} {z : Nat} (E : zEnv tys) : zKnW l D vwCl tys o z (zXX o z) zTs zprog2 zyx449d :=
  zkn_mk E (fun g => List.forall_mem_cons.mpr ⟨zyx448 (o := zwith o g) E, List.forall_mem_cons.mpr ⟨zyx446 (o := zwith o g) E, List.forall_mem_cons.mpr ⟨zyx443 (o := zwith o g) E, List.forall_mem_cons.mpr ⟨zyx322 (o := zwith o g) E, List.forall_mem_cons.mpr ⟨zyx323 (o := zwith o g) E, fun _ h => absurd h List.not_mem_nil⟩⟩⟩⟩⟩) (show zget zprog2 292 = some m2X8_thing from rfl) rfl (by decide) (by decide) (by decide) (by decide) (G := zyx449p) (fun _ h => absurd h List.not_mem_nil) zyx449e
/-! X8_product ((('r', 102), 40, 22),) -/
noncomputable def zyx450a : List zAV := [.inr (.inr (.inl 94)), .inl ((.ofNat 0, .ofNat 4), none)]
def zyx450r : Option zAV := some (.inl ((.negSucc 2147483647, .ofNat 2147483647), none))
noncomputable def zyx450q : zPw := ((6, ([(0, .inr (.inr (.inl 94))), (1, .inl ((.ofNat 0, .ofNat 4), some (1, .ofNat 0))), (2, .inl ((.negSucc 2147483647, .ofNat 2147483647), some (2, .ofNat 0)))], [], zyh595, 0, 0), [], 0), (zyx450r, zyh595), 77, 9300)
set_option maxRecDepth 100000 in
theorem zyx450c : zchkX [(94, 15)] zprog2 (zovW [zyx449d, zyx443d]) 100000 k2X8_product [zyx444q, zyx438q, zyx432q, zyx426q, zyx420q, zyx414q, zyx408q, zyx402q, zyx396q, zyx390q, zyx384q, zyx378q, zyx372q, zyx366q, zyx360q, zyx354q, zyx348q, zyx342q] [zyx450q] [zyx450q] = true := by decide +kernel
theorem zyx450k {l : Launch} {D : va_G} {tys : List (ClassId × FieldType)} {o : zO} {z : Nat} (E : zEnv tys) : zPtOk l D vwCl tys o z (zXX o z) zTs m2X8_product zyx450q := zkn_pt E (fun g => List.forall_mem_cons.mpr ⟨zyx449 (o := zwith o g) E, List.forall_mem_cons.mpr ⟨zyx443 (o := zwith o g) E, fun _ h => absurd h List.not_mem_nil⟩⟩) (show zget zprog2 265 = some m2X8_product from rfl) (List.forall_mem_cons.mpr ⟨zyx444k E, List.forall_mem_cons.mpr ⟨zyx438k E, List.forall_mem_cons.mpr ⟨zyx432k E, List.forall_mem_cons.mpr ⟨zyx426k E, List.forall_mem_cons.mpr ⟨zyx420k E, List.forall_mem_cons.mpr ⟨zyx414k E, List.forall_mem_cons.mpr ⟨zyx408k E, List.forall_mem_cons.mpr ⟨zyx402k E, List.forall_mem_cons.mpr ⟨zyx396k E, List.forall_mem_cons.mpr ⟨zyx390k E, List.forall_mem_cons.mpr ⟨zyx384k E, List.forall_mem_cons.mpr ⟨zyx378k E, List.forall_mem_cons.mpr ⟨zyx372k E, List.forall_mem_cons.mpr ⟨zyx366k E, List.forall_mem_cons.mpr ⟨zyx360k E, List.forall_mem_cons.mpr ⟨zyx354k E, List.forall_mem_cons.mpr ⟨zyx348k E, List.forall_mem_cons.mpr ⟨zyx342k E, fun _ h => absurd h List.not_mem_nil⟩⟩⟩⟩⟩⟩⟩⟩⟩⟩⟩⟩⟩⟩⟩⟩⟩⟩) zyx450c _ List.mem_cons_self
noncomputable def zyx450d : zKw := (265, 5, 77, 9300, zyx450a, zyh486, [(zyx450r, zyh595)])
set_option maxRecDepth 100000 in
theorem zyx450e : zrunw zprog2 (zovW [zyx449d, zyx443d]) 100000 (zcutW [(94, 15)] none ((zyx450r, zyh595), 77, 9300) [zyx450q, zyx444q, zyx438q, zyx432q, zyx426q, zyx420q, zyx414q, zyx408q, zyx402q, zyx396q, zyx390q, zyx384q, zyx378q, zyx372q, zyx366q, zyx360q, zyx354q, zyx348q, zyx342q]) 77 9300 k2X8_product (zkin zyx450r zyh595) 0 (zargs 0 zyx450a, [], (zyh486.1, zyh486.2.1, 0), 0, 0) = true := by decide +kernel
theorem zyx450 {l : Launch} {D : va_G} {tys : List (ClassId × FieldType)} {o : zO} {z : Nat} (E : zEnv tys) : zKnW l D vwCl tys o z (zXX o z) zTs zprog2 zyx450d :=
  zkn_mk E (fun g => List.forall_mem_cons.mpr ⟨zyx449 (o := zwith o g) E, List.forall_mem_cons.mpr ⟨zyx443 (o := zwith o g) E, fun _ h => absurd h List.not_mem_nil⟩⟩) (show zget zprog2 265 = some m2X8_product from rfl) rfl (by decide) (by decide) (by decide) (by decide) (G := [zyx450q, zyx444q, zyx438q, zyx432q, zyx426q, zyx420q, zyx414q, zyx408q, zyx402q, zyx396q, zyx390q, zyx384q, zyx378q, zyx372q, zyx366q, zyx360q, zyx354q, zyx348q, zyx342q]) (List.forall_mem_cons.mpr ⟨zyx450k E, List.forall_mem_cons.mpr ⟨zyx444k E, List.forall_mem_cons.mpr ⟨zyx438k E, List.forall_mem_cons.mpr ⟨zyx432k E, List.forall_mem_cons.mpr ⟨zyx426k E, List.forall_mem_cons.mpr ⟨zyx420k E, List.forall_mem_cons.mpr ⟨zyx414k E, List.forall_mem_cons.mpr ⟨zyx408k E, List.forall_mem_cons.mpr ⟨zyx402k E, List.forall_mem_cons.mpr ⟨zyx396k E, List.forall_mem_cons.mpr ⟨zyx390k E, List.forall_mem_cons.mpr ⟨zyx384k E, List.forall_mem_cons.mpr ⟨zyx378k E, List.forall_mem_cons.mpr ⟨zyx372k E, List.forall_mem_cons.mpr ⟨zyx366k E, List.forall_mem_cons.mpr ⟨zyx360k E, List.forall_mem_cons.mpr ⟨zyx354k E, List.forall_mem_cons.mpr ⟨zyx348k E, List.forall_mem_cons.mpr ⟨zyx342k E, fun _ h => absurd h List.not_mem_nil⟩⟩⟩⟩⟩⟩⟩⟩⟩⟩⟩⟩⟩⟩⟩⟩⟩⟩⟩) zyx450e
/-! X8_sum ((('r', 102), 40, 22),) -/
noncomputable def zyx451a : List zAV := [.inr (.inr (.inl 94)), .inl ((.ofNat 1, .ofNat 4), none)]
def zyx451r : Option zAV := some (.inl ((.negSucc 2147483647, .ofNat 2147483647), none))
noncomputable def zyx451q : zPw := ((6, ([(0, .inr (.inr (.inl 94))), (1, .inl ((.ofNat 0, .ofNat 4), some (1, .ofNat 0))), (2, .inl ((.negSucc 2147483647, .ofNat 2147483647), some (2, .ofNat 0)))], [], zyh595, 0, 0), [], 0), (zyx451r, zyh595), 78, 9420)
set_option maxRecDepth 100000 in
theorem zyx451c : zchkX [(94, 15)] zprog2 (zovW [zyx450d, zyx444d]) 100000 kX8_sum [zyx445q, zyx439q, zyx433q, zyx427q, zyx421q, zyx415q, zyx409q, zyx403q, zyx397q, zyx391q, zyx385q, zyx379q, zyx373q, zyx367q, zyx361q, zyx355q, zyx349q, zyx343q] [zyx451q] [zyx451q] = true := by decide +kernel
theorem zyx451k {l : Launch} {D : va_G} {tys : List (ClassId × FieldType)} {o : zO} {z : Nat} (E : zEnv tys) : zPtOk l D vwCl tys o z (zXX o z) zTs mX8_sum zyx451q := zkn_pt E (fun g => List.forall_mem_cons.mpr ⟨zyx450 (o := zwith o g) E, List.forall_mem_cons.mpr ⟨zyx444 (o := zwith o g) E, fun _ h => absurd h List.not_mem_nil⟩⟩) (show zget zprog2 284 = some mX8_sum from rfl) (List.forall_mem_cons.mpr ⟨zyx445k E, List.forall_mem_cons.mpr ⟨zyx439k E, List.forall_mem_cons.mpr ⟨zyx433k E, List.forall_mem_cons.mpr ⟨zyx427k E, List.forall_mem_cons.mpr ⟨zyx421k E, List.forall_mem_cons.mpr ⟨zyx415k E, List.forall_mem_cons.mpr ⟨zyx409k E, List.forall_mem_cons.mpr ⟨zyx403k E, List.forall_mem_cons.mpr ⟨zyx397k E, List.forall_mem_cons.mpr ⟨zyx391k E, List.forall_mem_cons.mpr ⟨zyx385k E, List.forall_mem_cons.mpr ⟨zyx379k E, List.forall_mem_cons.mpr ⟨zyx373k E, List.forall_mem_cons.mpr ⟨zyx367k E, List.forall_mem_cons.mpr ⟨zyx361k E, List.forall_mem_cons.mpr ⟨zyx355k E, List.forall_mem_cons.mpr ⟨zyx349k E, List.forall_mem_cons.mpr ⟨zyx343k E, fun _ h => absurd h List.not_mem_nil⟩⟩⟩⟩⟩⟩⟩⟩⟩⟩⟩⟩⟩⟩⟩⟩⟩⟩) zyx451c _ List.mem_cons_self
noncomputable def zyx451d : zKw := (284, 5, 78, 9420, zyx451a, zyh486, [(zyx451r, zyh595)])
set_option maxRecDepth 100000 in
theorem zyx451e : zrunw zprog2 (zovW [zyx450d, zyx444d]) 100000 (zcutW [(94, 15)] none ((zyx451r, zyh595), 78, 9420) [zyx451q, zyx445q, zyx439q, zyx433q, zyx427q, zyx421q, zyx415q, zyx409q, zyx403q, zyx397q, zyx391q, zyx385q, zyx379q, zyx373q, zyx367q, zyx361q, zyx355q, zyx349q, zyx343q]) 78 9420 kX8_sum (zkin zyx451r zyh595) 0 (zargs 0 zyx451a, [], (zyh486.1, zyh486.2.1, 0), 0, 0) = true := by decide +kernel
theorem zyx451 {l : Launch} {D : va_G} {tys : List (ClassId × FieldType)} {o : zO} {z : Nat} (E : zEnv tys) : zKnW l D vwCl tys o z (zXX o z) zTs zprog2 zyx451d :=
  zkn_mk E (fun g => List.forall_mem_cons.mpr ⟨zyx450 (o := zwith o g) E, List.forall_mem_cons.mpr ⟨zyx444 (o := zwith o g) E, fun _ h => absurd h List.not_mem_nil⟩⟩) (show zget zprog2 284 = some mX8_sum from rfl) rfl (by decide) (by decide) (by decide) (by decide) (G := [zyx451q, zyx445q, zyx439q, zyx433q, zyx427q, zyx421q, zyx415q, zyx409q, zyx403q, zyx397q, zyx391q, zyx385q, zyx379q, zyx373q, zyx367q, zyx361q, zyx355q, zyx349q, zyx343q]) (List.forall_mem_cons.mpr ⟨zyx451k E, List.forall_mem_cons.mpr ⟨zyx445k E, List.forall_mem_cons.mpr ⟨zyx439k E, List.forall_mem_cons.mpr ⟨zyx433k E, List.forall_mem_cons.mpr ⟨zyx427k E, List.forall_mem_cons.mpr ⟨zyx421k E, List.forall_mem_cons.mpr ⟨zyx415k E, List.forall_mem_cons.mpr ⟨zyx409k E, List.forall_mem_cons.mpr ⟨zyx403k E, List.forall_mem_cons.mpr ⟨zyx397k E, List.forall_mem_cons.mpr ⟨zyx391k E, List.forall_mem_cons.mpr ⟨zyx385k E, List.forall_mem_cons.mpr ⟨zyx379k E, List.forall_mem_cons.mpr ⟨zyx373k E, List.forall_mem_cons.mpr ⟨zyx367k E, List.forall_mem_cons.mpr ⟨zyx361k E, List.forall_mem_cons.mpr ⟨zyx355k E, List.forall_mem_cons.mpr ⟨zyx349k E, List.forall_mem_cons.mpr ⟨zyx343k E, fun _ h => absurd h List.not_mem_nil⟩⟩⟩⟩⟩⟩⟩⟩⟩⟩⟩⟩⟩⟩⟩⟩⟩⟩⟩) zyx451e
/-! X8_heldBy -/
noncomputable def zyx452a : List zAV := [.inr (.inr (.inl 94)), .inl ((.ofNat 1, .ofNat 4), none)]
def zyx452r : Option zAV := some (.inl ((.negSucc 2147483647, .ofNat 2147483647), none))
noncomputable def zyx452p : List zPw := []
noncomputable def zyx452d : zKw := (229, 3, 79, 9540, zyx452a, zyh486, [(zyx452r, zyh595)])
set_option maxRecDepth 100000 in
theorem zyx452e : zrunw zprog2 (zovW [zyx451d, zyx445d, zyx322d]) 100000 (zcutW [] none ((zyx452r, zyh595), 79, 9540) zyx452p) 79 9540 kX8_heldBy (zkin zyx452r zyh595) 0 (zargs 0 zyx452a, [], (zyh486.1, zyh486.2.1, 0), 0, 0) = true := by decide +kernel
theorem zyx452 {l : Launch} {D : va_G} {tys : List (ClassId × FieldType)} {o : zO} {z : Nat} (E : zEnv tys) : zKnW l D vwCl tys o z (zXX o z) zTs zprog2 zyx452d :=
  zkn_mk E (fun g => List.forall_mem_cons.mpr ⟨zyx451 (o := zwith o g) E, List.forall_mem_cons.mpr ⟨zyx445 (o := zwith o g) E, List.forall_mem_cons.mpr ⟨zyx322 (o := zwith o g) E, fun _ h => absurd h List.not_mem_nil⟩⟩⟩) (show zget zprog2 229 = some mX8_heldBy from rfl) rfl (by decide) (by decide) (by decide) (by decide) (G := zyx452p) (fun _ h => absurd h List.not_mem_nil) zyx452e
/-! X8_oneOf -/
noncomputable def zyx453a : List zAV := [zyv320, zyv362, zyv363]
noncomputable def zyx453q : List (Option zAV × zH) := [(some (.inl ((.ofNat 0, .ofNat 0), none)), zyh596), (some (.inl ((.negSucc 175, .ofNat 79), none)), zyh597)]
noncomputable def zyx453d : zKw := (260, 3, 4, 480, zyx453a, zyh483, zyx453q)
set_option maxRecDepth 100000 in
theorem zyx453e : zrunw zprog2 (zovW []) 100000 zcut0 4 480 kX8_oneOf (zkinL zyx453q) 0 (zargs 0 zyx453a, [], (zyh483.1, zyh483.2.1, 0), 0, 0) = true := by decide +kernel
theorem zyx453 {l : Launch} {D : va_G} {tys : List (ClassId × FieldType)} {o : zO} {z : Nat} (E : zEnv tys) : zKnW l D vwCl tys o z (zXX o z) zTs zprog2 zyx453d :=
  zkn_ml E (fun g => fun _ h => absurd h List.not_mem_nil) (show zget zprog2 260 = some mX8_oneOf from rfl) rfl (by decide) (by decide) (by decide) (by decide) zyx453e
/-! X8_number -/
noncomputable def zyx454a : List zAV := [.inr (.inr (.inl 94)), .inl ((.ofNat 3, .ofNat 3), none)]
def zyx454r : Option zAV := some (.inl ((.negSucc 2147483647, .ofNat 2147483647), none))
noncomputable def zyx454p : List zPw := [((11, ([(0, .inr (.inr (.inl 94))), (1, .inl ((.ofNat 3, .ofNat 3), some (1, .ofNat 0))), (2, .inl ((.negSucc 2147483647, .ofNat 2147483647), some (2, .ofNat 0))), (3, .inl ((.ofNat 1, .ofNat 3), some (3, .ofNat 0)))], [], zyh598, 0, 0), [(3, .negSucc 1)], .ofNat 7), (zyx454r, zyh598), 5, 600)]
noncomputable def zyx454d : zKw := (259, 4, 5, 600, zyx454a, zyh483, [(zyx454r, zyh598)])
set_option maxRecDepth 100000 in
theorem zyx454c : zchkX [] zprog2 (zovW [zyx453d]) 100000 kX8_number [] zyx454p zyx454p = true := by decide +kernel
set_option maxRecDepth 100000 in
theorem zyx454e : zrunw zprog2 (zovW [zyx453d]) 100000 (zcutW [] none ((zyx454r, zyh598), 5, 600) zyx454p) 5 600 kX8_number (zkin zyx454r zyh598) 0 (zargs 0 zyx454a, [], (zyh483.1, zyh483.2.1, 0), 0, 0) = true := by decide +kernel
theorem zyx454 {l : Launch} {D : va_G} {tys : List (ClassId × FieldType)} {o : zO} {z : Nat} (E : zEnv tys) : zKnW l D vwCl tys o z (zXX o z) zTs zprog2 zyx454d :=
  zkn_mk E (fun g => List.forall_mem_cons.mpr ⟨zyx453 (o := zwith o g) E, fun _ h => absurd h List.not_mem_nil⟩) (show zget zprog2 259 = some mX8_number from rfl) rfl (by decide) (by decide) (by decide) (by decide) (G := zyx454p) (zkn_pt E (fun g => List.forall_mem_cons.mpr ⟨zyx453 (o := zwith o g) E, fun _ h => absurd h List.not_mem_nil⟩) (show zget zprog2 259 = some mX8_number from rfl) (fun _ h => absurd h List.not_mem_nil) zyx454c) zyx454e
/-! X8_thing -/
noncomputable def zyx455a : List zAV := [.inr (.inr (.inl 94)), .inl ((.ofNat 0, .ofNat 4), none)]
def zyx455r : Option zAV := some (.inl ((.negSucc 2147483647, .ofNat 2147483647), none))
noncomputable def zyx455p : List zPw := []
noncomputable def zyx455d : zKw := (292, 4, 80, 9660, zyx455a, zyh483, [(zyx455r, zyh598)])
set_option maxRecDepth 100000 in
theorem zyx455e : zrunw zprog2 (zovW [zyx454d, zyx452d, zyx449d, zyx321d, zyx322d]) 100000 (zcutW [] none ((zyx455r, zyh598), 80, 9660) zyx455p) 80 9660 k2X8_thing (zkin zyx455r zyh598) 0 (zargs 0 zyx455a, [], (zyh483.1, zyh483.2.1, 0), 0, 0) = true := by decide +kernel
theorem zyx455 {l : Launch} {D : va_G} {tys : List (ClassId × FieldType)} {o : zO} {z : Nat} (E : zEnv tys) : zKnW l D vwCl tys o z (zXX o z) zTs zprog2 zyx455d :=
  zkn_mk E (fun g => List.forall_mem_cons.mpr ⟨zyx454 (o := zwith o g) E, List.forall_mem_cons.mpr ⟨zyx452 (o := zwith o g) E, List.forall_mem_cons.mpr ⟨zyx449 (o := zwith o g) E, List.forall_mem_cons.mpr ⟨zyx321 (o := zwith o g) E, List.forall_mem_cons.mpr ⟨zyx322 (o := zwith o g) E, fun _ h => absurd h List.not_mem_nil⟩⟩⟩⟩⟩) (show zget zprog2 292 = some m2X8_thing from rfl) rfl (by decide) (by decide) (by decide) (by decide) (G := zyx455p) (fun _ h => absurd h List.not_mem_nil) zyx455e
