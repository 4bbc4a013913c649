noncomputable def zyh2132 : zH := (126, [zyr9, zyr10, zyr11, zyr12, zyr13, zyr354, zyr15, zyr16], zym110)
noncomputable def zyFw : zR zC := zyh2132.2.1
noncomputable def zyFfs : List zAV := [zyv117, zyv26, zyv27, zyv25, zyv118, zyv119, zyv120, zyv121, zyv17, zyv122, zyv25, zyv128, zyv114, zyv17, zyv123, zyv123, zyv124, zyv125, zyv126, zyv127, zyv35, zyv128, zyv129, zyv130, zyv13, zyv131, zyv132, zyv18, zyv18, zyv133, zyv134, zyv135, zyv136, zyv137, zyv138, zyv139, zyv140, zyv141, zyv142, zyv15, zyv144, zyv145, zyv146, zyv147, zyv15, zyv13, zyv15, zyv15, zyv148, zyv149, zyv150]
def zyFt : zI := (.negSucc 2147483647, .ofNat 2147483647)
noncomputable def zyFc (st : List zAV) (mk : Nat) : zK := ([(0, .inr (.inr (.inl 94))), (1, .inl (zyFt, some (1, .ofNat 0))), (2, .inl (zyFt, some (2, .ofNat 0)))], st, (126, zyFw, mk), 0, 0)
noncomputable def zyFe : zK := ([(0, .inr (.inr (.inl 94))), (1, .inl ((.negSucc 0, .negSucc 0), some (1, .ofNat 0))), (2, .inl ((.ofNat 3997, .ofNat 3997), some (2, .ofNat 0)))], [], (126, zyFw, zym110), 0, 0)
noncomputable def zyFds : List zKw := [zyx693d, zyx695d]
noncomputable def zyFk : zRt := zkinL [(some (.inl ((.negSucc 2147483647, .ofNat 2147483647), none)), zyh2129)]
abbrev zyFR : Room := { frames := 250, cells := 0, slots := 0, locals := 30000 }
set_option maxRecDepth 100000 in
theorem zyF_0 : zrunw zprog2 (zovW zyFds) 100000 (zcutH [(16, zyFe, [])]) 250 30000 kX8_fairest (fun _ _ => false) 0 (zargs 0 [.inr (.inr (.inl 94))], [], (zyh2.1, zyh2.2.1, 0), 0, 0) = true := by decide +kernel
set_option maxRecDepth 100000 in
theorem zyF_58 : zrunw zprog2 (zovW zyFds) 100000 zcut0 250 30000 kX8_fairest zyFk 58 (zyFc [] zym110) = true := by decide +kernel
set_option maxRecDepth 100000 in
theorem zyF_32 : zrunw zprog2 (zovW zyFds) 100000 (zcutH [(42, zyFc [] zym61, [(1, 1), (2, 2)]), (50, zyFc [] zym61, [(1, 1), (2, 2)])]) 250 30000 kX8_fairest (fun _ _ => false) 32 (zyFc [] 0) = true := by decide +kernel
set_option maxRecDepth 100000 in
theorem zyF_46 : zrunw zprog2 (zovW zyFds) 100000 (zcutH [(16, zyFc [] 0, [(1, 1), (2, 50)])]) 250 30000 kX8_fairest (fun _ _ => false) 46 (zyFc [.inl (zyFt, some (50, .ofNat 0))] 0) = true := by decide +kernel
set_option maxRecDepth 100000 in
theorem zyF_54 : zrunw zprog2 (zovW zyFds) 100000 (zcutH [(16, zyFc [] 0, [(1, 50), (2, 2)])]) 250 30000 kX8_fairest (fun _ _ => false) 54 (zyFc [.inl (zyFt, some (50, .ofNat 0))] 0) = true := by decide +kernel
set_option maxRecDepth 100000 in
theorem zyF_m : zsm (Nat.lor (Nat.lor (zdirt zym110 94 39) zym61) 0) zym110 = true := by decide +kernel
set_option maxRecDepth 100000 in
theorem zyF_b : zbit zym61 94 39 = false := by decide +kernel
set_option maxRecDepth 100000 in
theorem zyF_c : zrget zyFw 94 = some (.inr (8, zyFfs)) := rfl
set_option maxRecDepth 100000 in
theorem zyF_l : zyFfs.length = 51 ∧ zyFfs[39]? = some (.inl (zyFt, none)) := ⟨rfl, rfl⟩
section ZFAIR
variable {p : Program} {l : Launch} {e : Env} {s : State} {m : MethodId} {args : Array Value} {below : List Frame} {meth : Method} {c0 : Code} {Q : State → Prop} {D : va_G} {tys : List (ClassId × FieldType)} {o : zO} {z : Nat} {ws0 : va_W}
theorem zfair_t {o : zO} {x : Int32} {ad : Nat → Option Nat} {n : Nat} {v : Value} (hn : n < 100) (h : zg o ad (.inl (zyFt, some (n, .ofNat 0))) v) : v = .int (o.2.2 n) := by
  obtain ⟨x, rfl, -, tx⟩ := zint h
  have tx : x = o.2.2 n + Int32.ofInt (.ofNat 0) := (ztg_eq (q := (n, .ofNat 0)) (by show n < 1000; omega)).mp tx
  rw [tx, show Int32.ofInt (.ofNat 0) = 0 by decide, Int32.add_zero]
set_option maxHeartbeats 4000000 in
theorem zfairL (E : zEnv tys) (hds : ∀ g, ∀ d ∈ zyFds, zKnW l D vwCl tys (zwith o g) z (zXX o z) zTs zprog2 d) (C : zCx p zyFR s m args meth c0 D vwCl tys z (zXX o z) zTs RX8 cX8_fairest 4 "fairest") (hrt : zRetOk p l e zyFR s m args below meth c0 Q D vwCl tys o z ws0 cX8_fairest (some .int) zyFk) : ∀ (n : Nat) (g : Nat → Int32), -1 ≤ (g 1).toInt → (g 1).toInt < (g 2).toInt → (g 2).toInt ≤ 3997 → (g 2).toInt - (g 1).toInt ≤ (n : Int) → zGo p l e zyFR s m args below meth c0 Q D vwCl tys (zwith o g) z ws0 4 16 (zyFc [] zym110) := by
  intro n
  induction n with
  | zero => intro g h1 h2 h3 h4; exfalso; have : (g 2).toInt - (g 1).toInt ≤ 0 := h4; omega
  | succ n ih =>
    intro g h1 h2 h3 h4 f hf ls vst H locs ws S
    have ev := zr2_nil S.2.1
    subst ev
    have S : zSat D vwCl tys (zwith o f) z ws0 4 s.heap (zyFc [] zym110) ls [] H locs ws := S
    obtain ⟨v0, l0, q0⟩ := zlv S.1 (i := 0) (a := .inr (.inr (.inl 94))) rfl
    obtain ⟨a0, ha0, rfl⟩ := q0
    obtain ⟨v1, l1, q1⟩ := zlv S.1 (i := 1) (a := .inl (zyFt, some (1, .ofNat 0))) rfl
    obtain ⟨v2, l2, q2⟩ := zlv S.1 (i := 2) (a := .inl (zyFt, some (2, .ofNat 0))) rfl
    have e1 := zfair_t (x := 0) (by decide) q1
    have e2 := zfair_t (x := 0) (by decide) q2
    subst e1
    subst e2
    have f1 : (zwith o f).2.2 1 = g 1 := hf 1 (by decide)
    have f2 : (zwith o f).2.2 2 = g 2 := hf 2 (by decide)
    rw [f1] at l1
    rw [f2] at l2
    have hsub : (g 2 - g 1).toInt = (g 2).toInt - (g 1).toInt := by
      rw [Int32.toInt_sub, zbm (B := 2147483648) (by decide) (by omega) (by omega)]
    refine lv_iload_n C.1 C.2.1 (zda zDX8_fairest 16 rfl rfl) rfl l2 ?_
    refine lv_iload_n C.1 C.2.1 (zda zDX8_fairest 17 rfl rfl) rfl l1 ?_
    refine lv_isub C.1 C.2.1 (zda zDX8_fairest 18 rfl rfl) ?_
    refine lv_iconst C.1 C.2.1 (zda zDX8_fairest 19 rfl rfl) rfl ?_
    refine lv_icmp_le C.1 C.2.1 (zda zDX8_fairest 20 rfl rfl) (tgt := 58) (by decide) (fun _ => ?_) (fun hgt => ?_)
    · exact zrunw_ok (o := zwith o g) (zovW_ok (hds g)) zXX_ok (zprog2_ok E) 100000 p e zyFR s m args below meth c0 Q ws0 4 cX8_fairest (some .int) kX8_fairest (zc2 (okX8_fairest (o := zwith o g) E) p e zyFR s m args below meth c0 Q ws0 rfl rfl C) 250 30000 (by decide) (by decide) zyFk hrt zcut0 (fun _ _ h => by cases h) 58 (zyFc [] zym110) zyF_58 f hf ls [] H locs ws S
    · rw [Int32.le_iff_toInt_le, hsub, show (Int32.ofInt 1).toInt = 1 by decide] at hgt
      have hadd : (g 1 + g 2).toInt = (g 1).toInt + (g 2).toInt := by
        rw [Int32.toInt_add, zbm (B := 2147483648) (by decide) (by omega) (by omega)]
      have h22 : (Int32.ofInt 2).toInt = 2 := by decide
      have hmid : ((g 1 + g 2) / Int32.ofInt 2).toInt = ((g 1).toInt + (g 2).toInt) / 2 := by
        rw [Int32.toInt_div, hadd, h22, ztd (by omega), zbm (B := 2147483648) (by decide) (by omega) (by omega)]
      obtain ⟨y, hy⟩ : ∃ y : Int32, y = (g 1 + g 2) / Int32.ofInt 2 := ⟨_, rfl⟩
      rw [← hy] at hmid
      refine lv_aload_n C.1 C.2.1 (zda zDX8_fairest 23 rfl rfl) rfl l0 ?_
      refine lv_iload_n C.1 C.2.1 (zda zDX8_fairest 24 rfl rfl) rfl l1 ?_
      refine lv_iload_n C.1 C.2.1 (zda zDX8_fairest 25 rfl rfl) rfl l2 ?_
      refine lv_iadd C.1 C.2.1 (zda zDX8_fairest 26 rfl rfl) ?_
      refine lv_iconst C.1 C.2.1 (zda zDX8_fairest 27 rfl rfl) rfl ?_
      refine lv_idiv C.1 C.2.1 (zda zDX8_fairest 28 rfl rfl) (by decide) ?_
      rw [← hy]
      obtain ⟨e0, hw, vs, rfl, hvs⟩ := zwr_at S.2.2.1 ha0 zyF_c
      have hlen : vs.length = 51 := by rw [← zr2_len hvs]; exact zyF_l.1
      refine zv_put C (zda zDX8_fairest 29 rfl rfl) (k := 39) (show vwCl[8]? = some (RX8, TX8, 51) from rfl) zinX8 tyX8 tyX8_ok nmX8 (by decide) zw1211 rfl (ty := .int) (by decide +kernel) S.2.2.2.1 S.2.2.2.2.1 S.2.2.2.2.2.1 hw (by omega) rfl rfl (fun H1 locs1 hP hD hS => ?_)
      obtain ⟨g', hg'⟩ : ∃ g' : Nat → Int32, g' = fun n => if n = 50 then y else g n := ⟨_, rfl⟩
      have g50 : g' 50 = y := by rw [hg']; rfl
      have g01 : g' 1 = g 1 := by rw [hg']; rfl
      have g02 : g' 2 = g 2 := by rw [hg']; rfl
      have hset : zr2 (zgH (zwith o f) (zad ws)) zyFfs (vs.set 39 (.int y)) := by
        have h9 := zr2_set 39 hvs (show zgH (zwith o f) (zad ws) (.inl (zyFt, none)) (.int y) from ⟨y, rfl, (z32 y).1, (z32 y).2⟩)
        have e9 : zyFfs.set 39 (.inl (zyFt, none)) = zyFfs := rfl
        rw [e9] at h9
        exact h9
      have hwr1 := zwr_same S.2.2.1 hw zyF_c ⟨_, rfl, hset⟩
      have hcg1 := zcg_obj (j := 39) (v := .int y) S.2.2.2.2.2.2 hw
      have hw1 : (ws.set 94 (a0, .inr (8, vs.set 39 (.int y))))[94]? = some (a0, .inr (8, vs.set 39 (.int y))) := by
        rw [List.getElem?_set, if_pos rfl, if_pos (List.getElem?_eq_some_iff.mp hw).1]
      have hy1 : (vs.set 39 (.int y))[39]? = some (.int y) := by
        rw [List.getElem?_set, if_pos rfl, if_pos (by omega)]
      generalize hws1 : ws.set 94 (a0, .inr (8, vs.set 39 (.int y))) = ws1 at hP hD hwr1 hcg1 hw1
      have had : zad ws1 = zad ws := by rw [← hws1]; exact zad_set hw
      obtain ⟨lv, s1, s2⟩ := S.1
      have S1 : zSat D vwCl tys (zwith o f) z ws1 4 s.heap (zyFc [] 0) ls [] H1 locs1 ws1 := ⟨⟨lv, s1, by rw [had]; exact s2⟩, trivial, ⟨hwr1.1, hwr1.2⟩, hP, hD, hS, zcg_rf⟩
      refine zstretch (o := zwith o f) (zovW_ok (hds f)) zXX_ok (zprog2_ok E) (by decide) (by decide) (zc2 (okX8_fairest (o := zwith o f) E) p e zyFR s m args below meth c0 Q ws1 rfl rfl C) zyF_32 S1 ?_
      intro q hq ls2 H2 locs2 ws2 S2 ht
      have S2' : ∃ mk9, mk9 = zym61 ∧ zSat D vwCl tys (zwith o (zgv ls2)) z ws1 4 s.heap (zyFc [] mk9) ls2 [] H2 locs2 ws2 ∧ (zgv ls2 1 = g 1 ∧ zgv ls2 2 = g 2) := by
        simp only [List.mem_cons, List.not_mem_nil, or_false] at hq
        rcases hq with rfl | rfl
        · exact ⟨_, rfl, S2, (ht (1, 1) List.mem_cons_self).trans f1, (ht (2, 2) (List.mem_cons_of_mem _ List.mem_cons_self)).trans f2⟩
        · exact ⟨_, rfl, S2, (ht (1, 1) List.mem_cons_self).trans f1, (ht (2, 2) (List.mem_cons_of_mem _ List.mem_cons_self)).trans f2⟩
      obtain ⟨mk9, rfl, S2, k1, k2⟩ := S2'
      obtain ⟨w0, m0, p0⟩ := zlv S2.1 (i := 0) (a := .inr (.inr (.inl 94))) rfl
      obtain ⟨a2, ha2, rfl⟩ := p0
      obtain ⟨vs2, hw2, hy2⟩ := zkept S2.2.2.2.2.2.2 hw1 zyF_b
      have ea : a2 = a0 := by
        have := zad_of hw2
        rw [this] at ha2
        exact (Option.some.inj ha2).symm
      subst ea
      rw [hy1] at hy2
      obtain ⟨g2, hg2⟩ : ∃ g2 : Nat → Int32, g2 = fun n => if n = 50 then y else zgv ls2 n := ⟨_, rfl⟩
      have g50 : g2 50 = y := by rw [hg2]; rfl
      have g01 : g2 1 = g 1 := by rw [hg2]; exact k1
      have g02 : g2 2 = g 2 := by rw [hg2]; exact k2
      obtain ⟨lv2, s21, s22⟩ := S2.1
      obtain ⟨⟨j0, u0⟩, lw0, rfl, c01, c02⟩ := zr2_cons s22
      obtain ⟨⟨j1, u1⟩, lw1, rfl, c11, c12⟩ := zr2_cons c02
      obtain ⟨⟨j2, u2⟩, lw2, rfl, c21, c22⟩ := zr2_cons c12
      have en := zr2_nil c22
      subst en
      have b1 : zg (zwith o g2) (zad ws2) (.inl (zyFt, some (1, .ofNat 0))) u1 := by
        have e9 := zfair_t (x := 0) (by decide) c11.2
        subst e9
        refine ⟨_, rfl, z32 _, (ztg_eq (q := (1, .ofNat 0)) (by decide)).mpr ?_⟩
        show zgv ls2 1 = g2 1 + Int32.ofInt (.ofNat 0)
        rw [k1, g01, show Int32.ofInt (.ofNat 0) = 0 by decide, Int32.add_zero]
      have b2 : zg (zwith o g2) (zad ws2) (.inl (zyFt, some (2, .ofNat 0))) u2 := by
        have e9 := zfair_t (x := 0) (by decide) c21.2
        subst e9
        refine ⟨_, rfl, z32 _, (ztg_eq (q := (2, .ofNat 0)) (by decide)).mpr ?_⟩
        show zgv ls2 2 = g2 2 + Int32.ofInt (.ofNat 0)
        rw [k2, g02, show Int32.ofInt (.ofNat 0) = 0 by decide, Int32.add_zero]
      have S3 : zSat D vwCl tys (zwith o g2) z ws2 4 s.heap (zyFc [.inl (zyFt, some (50, .ofNat 0))] 0) ls2 [.int y] H2 locs2 ws2 := by
        refine ⟨⟨_, s21, c01, ⟨c11.1, b1⟩, ⟨c21.1, b2⟩, trivial⟩, ⟨⟨y, rfl, z32 _, (ztg_eq (q := (50, .ofNat 0)) (by decide)).mpr ?_⟩, trivial⟩, ⟨S2.2.2.1.1, S2.2.2.1.2⟩, S2.2.2.2.1, S2.2.2.2.2.1, S2.2.2.2.2.2.1, zcg_rf⟩
        show y = g2 50 + Int32.ofInt (.ofNat 0)
        rw [g50, show Int32.ofInt (.ofNat 0) = 0 by decide, Int32.add_zero]
      have fin : ∀ (ls3 : Array Slot) (H3 : Heap) (locs3 : List Loc) (ws3 : va_W), zSat D vwCl tys (zwith (zwith o g2) (zgv ls3)) z ws2 4 s.heap (zyFc [] 0) ls3 [] H3 locs3 ws3 → -1 ≤ (zgv ls3 1).toInt → (zgv ls3 1).toInt < (zgv ls3 2).toInt → (zgv ls3 2).toInt ≤ 3997 → (zgv ls3 2).toInt - (zgv ls3 1).toInt ≤ (n : Int) → W p l e zyFR s m args below meth c0 H3 locs3 0 0 Q (F0 m 16 ls3 []) := by
        intro ls3 H3 locs3 ws3 S4 j1 j2 j3 j4
        exact ih (zgv ls3) j1 j2 j3 j4 (zgv ls3) (fun _ _ => rfl) ls3 [] H3 locs3 ws3 ⟨S4.1, S4.2.1, S4.2.2.1, S4.2.2.2.1, S4.2.2.2.2.1, S4.2.2.2.2.2.1, zsm_ok zyF_m (zcg_tr (zcg_tr hcg1 S2.2.2.2.2.2.2) S4.2.2.2.2.2.2)⟩
      simp only [List.mem_cons, List.not_mem_nil, or_false] at hq
      rcases hq with rfl | rfl
      · refine lv_aload_n C.1 C.2.1 (zda zDX8_fairest 42 rfl rfl) rfl m0 ?_
        refine zv_get C (zda zDX8_fairest 43 rfl rfl) (k := 39) (show vwCl[8]? = some (RX8, TX8, 51) from rfl) zinX8 (by decide) zw1211 S2.2.2.2.1 hw2 hy2 ?_
        refine zstretch (o := zwith o g2) (zovW_ok (hds g2)) zXX_ok (zprog2_ok E) (by decide) (by decide) (zc2 (okX8_fairest (o := zwith o g2) E) p e zyFR s m args below meth c0 Q ws2 rfl rfl C) zyF_46 S3 ?_
        intro q hq ls3 H3 locs3 ws3 S4 ht4
        simp only [List.mem_cons, List.not_mem_nil, or_false] at hq
        subst hq
        have r1 : zgv ls3 1 = g 1 := (ht4 (1, 1) List.mem_cons_self).trans g01
        have r2 : zgv ls3 2 = y := (ht4 (2, 50) (List.mem_cons_of_mem _ List.mem_cons_self)).trans g50
        exact fin ls3 H3 locs3 ws3 S4 (by rw [r1]; omega) (by rw [r1, r2, hmid]; omega) (by rw [r2, hmid]; omega) (by rw [r1, r2, hmid]; omega)
      · refine lv_aload_n C.1 C.2.1 (zda zDX8_fairest 50 rfl rfl) rfl m0 ?_
        refine zv_get C (zda zDX8_fairest 51 rfl rfl) (k := 39) (show vwCl[8]? = some (RX8, TX8, 51) from rfl) zinX8 (by decide) zw1211 S2.2.2.2.1 hw2 hy2 ?_
        refine zstretch (o := zwith o g2) (zovW_ok (hds g2)) zXX_ok (zprog2_ok E) (by decide) (by decide) (zc2 (okX8_fairest (o := zwith o g2) E) p e zyFR s m args below meth c0 Q ws2 rfl rfl C) zyF_54 S3 ?_
        intro q hq ls3 H3 locs3 ws3 S4 ht4
        simp only [List.mem_cons, List.not_mem_nil, or_false] at hq
        subst hq
        have r1 : zgv ls3 1 = y := (ht4 (1, 50) List.mem_cons_self).trans g50
        have r2 : zgv ls3 2 = g 2 := (ht4 (2, 2) (List.mem_cons_of_mem _ List.mem_cons_self)).trans g02
        exact fin ls3 H3 locs3 ws3 S4 (by rw [r1, hmid]; omega) (by rw [r1, r2, hmid]; omega) (by rw [r2]; omega) (by rw [r1, r2, hmid]; omega)
end ZFAIR
set_option maxHeartbeats 4000000 in
theorem zyF {l : Launch} {D : va_G} {tys : List (ClassId × FieldType)} {o : zO} {z : Nat} (E : zEnv tys) : zKnW l D vwCl tys o z (zXX o z) zTs zprog2 zyFd := by
  have hds : ∀ g, ∀ d ∈ zyFds, zKnW l D vwCl tys (zwith o g) z (zXX o z) zTs zprog2 d := fun g => List.forall_mem_cons.mpr ⟨zyx693 (o := zwith o g) E, List.forall_mem_cons.mpr ⟨zyx695 (o := zwith o g) E, fun _ h => absurd h List.not_mem_nil⟩⟩
  intro mr hm
  have hm9 : zget zprog2 206 = some mX8_fairest := rfl
  have hm : zget zprog2 206 = some mr := hm
  rw [hm9] at hm
  cases hm
  refine ⟨rfl, zMet_of (mr := mX8_fairest) (k := zyFk) (by decide) (by decide) (by decide) (show 1 ≤ 4 by decide) (show 1 ≤ 700 by decide) ?_⟩
  intro p e s m args below meth c0 Q ws0 C hrt f hf ls vst H locs ws S
  have hr := zrunw_ok (o := o) (zovW_ok (hds o.2.2)) zXX_ok (zprog2_ok E) 100000 p e zyFR s m args below meth c0 Q ws0 4 cX8_fairest (some .int) kX8_fairest (zc2 (okX8_fairest (o := o) E) p e zyFR s m args below meth c0 Q ws0 rfl rfl C) 250 30000 (by decide) (by decide) (fun _ _ => false) (fun pc ls v r h H locs ws cells slots _ _ _ _ _ _ _ _ _ q => by cases q) (zcutH [(16, zyFe, [])]) ?_ 0 _ zyF_0
  · exact hr f hf ls vst H locs ws S
  intro pc' c' hc f' hf' ls' vst' H' locs' ws' S'
  obtain ⟨q, hq, e1, hi, ht⟩ := zcutH_ok hc
  simp only [List.mem_cons, List.not_mem_nil, or_false] at hq
  subst hq
  subst e1
  have S' : zSat D vwCl tys (zwith o f') z ws0 4 s.heap c' ls' vst' H' locs' ws' := S'
  obtain ⟨S2, w1, w2⟩ := zinc_ok hi S'
  obtain ⟨u1, l1, q1⟩ := zlv S2.1 (i := 1) (a := .inl ((.negSucc 0, .negSucc 0), some (1, .ofNat 0))) rfl
  obtain ⟨u2, l2, q2⟩ := zlv S2.1 (i := 2) (a := .inl ((.ofNat 3997, .ofNat 3997), some (2, .ofNat 0))) rfl
  obtain ⟨x1, rfl, ⟨b1, b2⟩, -⟩ := zint q1
  obtain ⟨x2, rfl, ⟨b3, b4⟩, -⟩ := zint q2
  have b1 : (-1 : Int) ≤ x1.toInt := b1
  have b2 : x1.toInt ≤ (-1 : Int) := b2
  have b3 : (3997 : Int) ≤ x2.toInt := b3
  have b4 : x2.toInt ≤ (3997 : Int) := b4
  have r1 := zgv_lo (n := 1) (by decide) l1
  have r2 := zgv_lo (n := 2) (by decide) l2
  obtain ⟨lv, s1, s2⟩ := S2.1
  obtain ⟨⟨j0, w0⟩, lw0, rfl, c01, c02⟩ := zr2_cons s2
  obtain ⟨⟨j1, w1'⟩, lw1, rfl, c11, c12⟩ := zr2_cons c02
  obtain ⟨⟨j2, w2'⟩, lw2, rfl, c21, c22⟩ := zr2_cons c12
  have k1 : zg (zwith o (zgv ls')) (zad ws') (.inl (zyFt, some (1, .ofNat 0))) w1' := by obtain ⟨x, hx, -, tx⟩ := zint c11.2; exact ⟨x, hx, z32 _, tx⟩
  have k2 : zg (zwith o (zgv ls')) (zad ws') (.inl (zyFt, some (2, .ofNat 0))) w2' := by obtain ⟨x, hx, -, tx⟩ := zint c21.2; exact ⟨x, hx, z32 _, tx⟩
  refine W.widen w1 w2 (zfairL (o := o) E hds C hrt 3998 (zgv ls') (by rw [r1]; omega) (by rw [r1, r2]; omega) (by rw [r2]; omega) (by rw [r1, r2]; show x2.toInt - x1.toInt ≤ (3998 : Int); omega) (zgv ls') (fun _ _ => rfl) ls' vst' H' locs' ws' ⟨⟨_, s1, c01, ⟨c11.1, k1⟩, ⟨c21.1, k2⟩, c22⟩, S2.2.1, S2.2.2.1, S2.2.2.2.1, S2.2.2.2.2.1, S2.2.2.2.2.2.1, S2.2.2.2.2.2.2⟩)
