/-! goSmooth() with values -/
def zmG : Nat := Nat.lor (zdirt 0 118 0) (zdirt 0 108 0)
theorem zmG_b {k j : Nat} (h : k ≠ 118) (h' : k ≠ 108) (hj : j < 64) : zbit zmG k j = false := by
  unfold zmG zbit zdirt
  show ((0 ||| 1 <<< (64 * 118 + 0)) ||| (0 ||| 1 <<< (64 * 108 + 0))).testBit (64 * k + j) = false
  rw [Nat.zero_or, Nat.zero_or, Nat.testBit_or, Nat.one_shiftLeft, Nat.one_shiftLeft, Nat.testBit_two_pow, Nat.testBit_two_pow, decide_eq_false (by omega), decide_eq_false (by omega)]
  rfl
def zmI : Nat := zdirt 0 118 0
theorem zmI_b {k j : Nat} (h : k ≠ 118) (hj : j < 64) : zbit zmI k j = false := by
  unfold zmI zbit zdirt
  show (0 ||| 1 <<< (64 * 118 + 0)).testBit (64 * k + j) = false
  rw [Nat.zero_or, Nat.one_shiftLeft, Nat.testBit_two_pow]
  exact decide_eq_false (by omega)
theorem zmR_b {k j : Nat} (h : k ≠ 108) (hj : j < 64) : zbit (zdirt 0 108 0) k j = false := by
  unfold zbit zdirt
  show (0 ||| 1 <<< (64 * 108 + 0)).testBit (64 * k + j) = false
  rw [Nat.zero_or, Nat.one_shiftLeft, Nat.testBit_two_pow]
  exact decide_eq_false (by omega)
theorem zmG_1 : zsm (Nat.lor zmG zmI) zmG = true := by decide +kernel
theorem zmG_2 : zsm (Nat.lor zmG (zdirt 0 108 0)) zmG = true := by decide +kernel
theorem zmG_3 : zsm (Nat.lor zmG zmG) zmG = true := by decide +kernel
theorem zmG_4 : zsm (Nat.lor zmG 0) zmG = true := by decide +kernel
def zGs (D : va_G) (tys : List (ClassId × FieldType)) (o : zO) (z : Nat) (s : State) (aM : Nat) (N M : Int32) (aMost aWidth aRode aMay aMust aLeast aLine : Nat) (Fa Fm : Nat → Int32) (ws0 : va_W) (Fr : Nat → Int32) (ws : va_W) (H : Heap) (locs : List Loc) : Prop := zwr vwCl tys o (zuW 0) ws ∧ va_P D vwCl ws H ∧ va_D (zA z) ws ∧ va_S (zA z) s.heap H locs ∧ zOb ws aM N M aMost aWidth aRode aMay aMust aLeast aLine ∧ zAr tys ws 111 aMay 8 Fa ∧ zAr tys ws 96 aMost 8 Fm ∧ zAr tys ws 108 aRode 8 Fr ∧ zcg zmG ws0 ws
abbrev zGsR (k : Nat) : Room := { frames := 20 + k, cells := 0, slots := 0, locals := 3000 + 100 * k }
noncomputable def zgsc (lb : Int) (mk : Nat) : zK := ([(0, .inr (.inr (.inl 94))), (1, .inl ((.ofNat 0, .ofNat 7), some (1, .ofNat 0))), (2, .inl ((lb, .ofNat 2147483647), some (2, .ofNat 0))), (3, .inl ((.ofNat 0, .ofNat 7), some (3, .ofNat 0)))], [], (126, zuw, mk), 0, 0)
noncomputable def zgsd : zK := ([(0, .inr (.inr (.inl 94))), (1, .inl ((.ofNat 0, .ofNat 7), some (1, .ofNat 0))), (2, .inl ((.negSucc 2147483647, .ofNat 2147483647), some (2, .ofNat 0))), (3, .inl ((.ofNat 0, .ofNat 7), some (3, .ofNat 0))), (4, .inl ((.ofNat 0, .ofNat 2000), some (4, .ofNat 0)))], [], (126, zuw, zmI), 0, 0)
set_option maxRecDepth 100000 in
theorem zgs_A : zrunw zprog2 (zovW []) 1000 (zcutH [(100, zgsd, [(1, 1), (2, 2), (3, 3)])]) 20 3000 kX8_goSmooth (fun _ _ => false) 51 (zgsc (.ofNat 2000) 0) = true := by decide +kernel
set_option maxRecDepth 100000 in
theorem zgs_B : zrunw zprog2 (zovW []) 1000 (zcutH [(100, zgsd, [(1, 1), (2, 2), (3, 3)]), (140, zgsc (.negSucc 2147483647) zmI, [(1, 1), (2, 2), (3, 3)])]) 20 3000 kX8_goSmooth (fun _ _ => false) 51 (zgsc (.negSucc 2147483647) 0) = true := by decide +kernel
section ZGOS
variable {p : Program} {l : Launch} {e : Env} {s : State} {m : MethodId} {args : Array Value} {below : List Frame} {meth : Method} {c0 : Code} {Q : State → Prop} {D : va_G} {tys : List (ClassId × FieldType)} {o : zO} {z : Nat}variable {aM : Nat} {N M : Int32} {aMost aWidth aRode aMay aMust aLeast aLine : Nat} {Fa Fm : Nat → Int32} {ws0 : va_W}
theorem zGs_d {d : Nat} {Fr : Nat → Int32} {ws ws' : va_W} {H H' : Heap} {locs locs' : List Loc} (h : zGs D tys o z s aM N M aMost aWidth aRode aMay aMust aLeast aLine Fa Fm ws0 Fr ws H locs) (hc : zcg d ws ws') (hb : ∀ k j, k ≠ 118 → k ≠ 108 → j < 64 → zbit d k j = false) (hm : zsm (Nat.lor zmG d) zmG = true) (hw : zwr vwCl tys o (zuW 0) ws') (hP : va_P D vwCl ws' H') (hD : va_D (zA z) ws') (hS : va_S (zA z) s.heap H' locs') {Fr' : Nat → Int32} (hr : zAr tys ws' 108 aRode 8 Fr') : zGs D tys o z s aM N M aMost aWidth aRode aMay aMust aLeast aLine Fa Fm ws0 Fr' ws' H' locs' := by
  obtain ⟨h1, h2, h3, h4, h5, h6, h7, h8, h9⟩ := h
  exact ⟨hw, hP, hD, hS, zOb_cg hc (fun j hj => hb 94 j (by decide) (by decide) (by omega)) h5, zAr_cg hc h6 (hb 111 0 (by decide) (by decide) (by decide)), zAr_cg hc h7 (hb 96 0 (by decide) (by decide) (by decide)), hr, zsm_ok hm (zcg_tr h9 hc)⟩
/-- rode[q] is written -/
theorem zGs_store {R : Room} {pc : Nat} {cc : ByteArray} {nL : Nat} {nm : String} (C : zCx p R s m args meth c0 D vwCl tys z (zXX o z) zTs RX8 cc nL nm) (hd : decode cc pc = .ok (.iastore, 1)) {cells slots : Nat} {ls : Array Slot} {rest : List Value} {Fr : Nat → Int32} {ws : va_W} {H : Heap} {locs : List Loc} (h : zGs D tys o z s aM N M aMost aWidth aRode aMay aMust aLeast aLine Fa Fm ws0 Fr ws H locs) {x v : Int32} {j : Nat} (hx : x.toInt = (j : Int)) (hj : j < 8) (kk : ∀ (H1 : Heap) (locs1 : List Loc) (ws1 : va_W), zGs D tys o z s aM N M aMost aWidth aRode aMay aMust aLeast aLine Fa Fm ws0 (upd Fr j v) ws1 H1 locs1 → W p l e R s m args below meth c0 H1 locs1 cells slots Q (F0 m (pc + 1) ls rest)) : W p l e R s m args below meth c0 H locs cells slots Q (F0 m pc ls (.int v :: .int x :: .ref aRode :: rest)) := by
  obtain ⟨h1, h2, h3, h4, h5, h6, h7, h8, h9⟩ := id h
  exact zv_iast C hd h1 zu_rode ⟨_, rfl, v, rfl, (z32 v).1, (z32 v).2⟩ h2 h3 h4 h8 hx hj (fun H1 locs1 ws1 k1 k2 k3 k4 k5 k6 => kk H1 locs1 ws1 (zGs_d h k6 (fun k j _ h2 h3 => zmR_b h2 h3) zmG_2 k1 k2 k3 k4 k5))
theorem zupd2 (F : Nat → Int32) (j : Nat) (v w : Int32) : upd (upd F j v) j w = upd F j w := by
  funext i
  unfold upd
  split <;> rfl
theorem zupd_s (F : Nat → Int32) (j : Nat) : upd F j (F j) = F := by
  funext i
  unfold upd
  split
  · rename_i e; rw [e]
  · rfl
set_option maxHeartbeats 4000000 in
/-- the loop over riders -/
theorem zgL {k : Nat} (E : zEnv tys) (C : zCx p (zGsR (k + 1)) s m args meth c0 D vwCl tys z (zXX o z) zTs RX8 cX8_goSmooth 6 "goSmooth") {Mn h : Nat} {xh xl : Int32} (hMn : Mn ≤ 8) (hM : M.toInt = (Mn : Int)) (hh : xh.toInt = (h : Int)) (hh8 : h < 8) (hFa : ∀ r, r < 8 → (Fa r).toInt = ((Fa r).toInt.toNat : Int) ∧ (Fa r).toInt.toNat < 256) (hFm : ∀ r, r < 8 → (Fm r).toInt ≤ 1000) {Fr : Nat → Int32}
    (IH : ∀ (Fr : Nat → Int32) (ws : va_W) (xh xl : Int32), xh.toInt = ((h + 1 : Nat) : Int) → zOb ws aM N M aMost aWidth aRode aMay aMust aLeast aLine → zAr tys ws 111 aMay 8 Fa → zAr tys ws 96 aMost 8 Fm → zAr tys ws 108 aRode 8 Fr → zMetV l D vwCl tys o z (zXX o z) zTs mX8_goSmooth (20 + k) (3000 + 100 * k) (zuW 0) (zuW zmG) ws [.ref aM, .int xh, .int xl] (fun v ws' => ∃ x : Int32, v = .int x ∧ (x = 0 ∨ x = 1) ∧ zAr tys ws' 108 aRode 8 Fr ∧ ∀ σ, zFs (fun q => (Fa q).toInt.toNat) (fun q => (Fm q).toInt) Mn (fun q => (Fr q).toInt) (h + 1) k σ → 2000 * (k : Int) ≤ xl.toInt → x = 1))
    (hret : ∀ (pc : Nat) (ls : Array Slot) (x : Int32) (H : Heap) (locs : List Loc) (ws : va_W), narrow .boolean (.int x) = .int x → decode cX8_goSmooth pc = .ok (.ireturn, 1) → zGs D tys o z s aM N M aMost aWidth aRode aMay aMust aLeast aLine Fa Fm ws0 Fr ws H locs → (x = 0 ∨ x = 1) → (∀ σ, zFs (fun q => (Fa q).toInt.toNat) (fun q => (Fm q).toInt) Mn (fun q => (Fr q).toInt) h (k + 1) σ → 2000 * ((k + 1 : Nat) : Int) ≤ xl.toInt → x = 1) → W p l e (zGsR (k + 1)) s m args below meth c0 H locs 0 0 Q (F0 m pc ls [.int x])) : ∀ (n q : Nat) (xq : Int32) (ws : va_W) (H : Heap) (locs : List Loc) (ls : Array Slot), Mn - q < n → q ≤ Mn → xq.toInt = (q : Int) → zGs D tys o z s aM N M aMost aWidth aRode aMay aMust aLeast aLine Fa Fm ws0 Fr ws H locs → (∀ σ, zFs (fun q => (Fa q).toInt.toNat) (fun q => (Fm q).toInt) Mn (fun q => (Fr q).toInt) h (k + 1) σ → 2000 * ((k + 1 : Nat) : Int) ≤ xl.toInt → q ≤ σ h) → lv_has ls 6 [(3, .int xq), (0, .ref aM), (1, .int xh), (2, .int xl)] → W p l e (zGsR (k + 1)) s m args below meth c0 H locs 0 0 Q (F0 m 12 ls []) := by
  intro n
  induction n with
  | zero => intro q xq ws H locs ls h; omega
  | succ n ih =>
    intro q xq ws H locs ls hqn hqM hxq hv hf hlv
    have K140 : ∀ (ws : va_W) (H : Heap) (locs : List Loc) (ls : Array Slot), q < Mn → zGs D tys o z s aM N M aMost aWidth aRode aMay aMust aLeast aLine Fa Fm ws0 Fr ws H locs → (∀ σ, zFs (fun q => (Fa q).toInt.toNat) (fun q => (Fm q).toInt) Mn (fun q => (Fr q).toInt) h (k + 1) σ → 2000 * ((k + 1 : Nat) : Int) ≤ xl.toInt → q ≠ σ h) → lv_has ls 6 [(3, .int xq), (0, .ref aM), (1, .int xh), (2, .int xl)] → W p l e (zGsR (k + 1)) s m args below meth c0 H locs 0 0 Q (F0 m 140 ls []) := by
      intro ws H locs ls hlt hv hne hlv
      refine lv_iinc C.1 C.2.1 (zda zDX8_goSmooth 140 rfl rfl) hlv (k := 0) rfl rfl (by decide) (lv' := [(3, _), (0, .ref aM), (1, .int xh), (2, .int xl)]) rfl (fun ls hlv => ?_)
      refine lv_goto C.1 C.2.1 (zda zDX8_goSmooth 143 rfl rfl) (tgt := 12) (by decide) ?_
      refine ih (q + 1) _ ws H locs ls (by omega) (by omega) (zinc1 hxq (by omega)) hv (fun σ h1 h2 => ?_) hlv
      have a1 := hf σ h1 h2
      have a2 := hne σ h1 h2
      omega
    obtain ⟨hw, hP, hD, hS, hO, hma, hmo, hro, hcg⟩ := id hv
    obtain ⟨vs, hob, hfN, hfM, hfMost, hfWidth, hfRode, hfMay, hfMust, hfLeast, hfLine⟩ := id hO
    refine lv_iload_n C.1 C.2.1 (zda zDX8_goSmooth 12 rfl rfl) rfl (lv_at hlv 0 rfl) ?_
    refine lv_aload_n C.1 C.2.1 (zda zDX8_goSmooth 13 rfl rfl) rfl (lv_at hlv 1 rfl) ?_
    refine zv_get C (zda zDX8_goSmooth 14 rfl rfl) (k := 3) (show vwCl[8]? = some (RX8, TX8, 51) from rfl) zinX8 (by decide) zw1175 hP hob hfM ?_
    refine lv_icmp_ge C.1 C.2.1 (zda zDX8_goSmooth 17 rfl rfl) (tgt := 146) (by decide) (fun h17 => ?_) (fun h17 => ?_)
    · rw [Int32.le_iff_toInt_le, hM, hxq] at h17
      refine lv_iconst C.1 C.2.1 (zda zDX8_goSmooth 146 rfl rfl) rfl ?_
      refine hret 147 ls _ H locs ws rfl (zda zDX8_goSmooth 147 rfl rfl) hv (Or.inl rfl) (fun σ h1 h2 => ?_)
      have a1 := hf σ h1 h2
      have a2 := (h1.1 h (Nat.le_refl _) (by omega)).1
      omega
    · rw [Int32.le_iff_toInt_le, hM, hxq] at h17
      have hq8 : q < 8 := by omega
      refine lv_aload_n C.1 C.2.1 (zda zDX8_goSmooth 20 rfl rfl) rfl (lv_at hlv 1 rfl) ?_
      refine zv_get C (zda zDX8_goSmooth 21 rfl rfl) (k := 32) (show vwCl[8]? = some (RX8, TX8, 51) from rfl) zinX8 (by decide) zw1204 hP hob hfMay ?_
      refine lv_iload_n C.1 C.2.1 (zda zDX8_goSmooth 24 rfl rfl) rfl (lv_at hlv 0 rfl) ?_
      refine zv_iald C (zda zDX8_goSmooth 25 rfl rfl) hP hma hxq hq8 ?_
      refine lv_iload_n C.1 C.2.1 (zda zDX8_goSmooth 26 rfl rfl) rfl (lv_at hlv 2 rfl) ?_
      refine zv_callS C zXX_ok zTs_good (zu_has (o := o) E (hFa q hq8).2 hh8 (hFa q hq8).1 hh) rfl rfl (by show 5 + 1 ≤ 20 + (k + 1); omega) (by show 8 + (2 + 11) + 1000 ≤ 3000 + 100 * (k + 1); omega) zw1491 zw1489 zw1490 zw16 (n := 2) (by decide +kernel) (zda zDX8_goSmooth 27 rfl rfl) rfl hw hP hD hS hlv.1 (by decide) (Nat.zero_le _) (Nat.zero_le _) (fun v ws H locs hc hw hP hD hS hu => ?_)
      obtain ⟨u, rfl, hu⟩ := hu
      have hv := zGs_d hv hc (fun k j _ _ _ => zb0 k j) zmG_4 hw hP hD hS (zAr_cg hc hro (zb0 108 0))
      clear hob hw hP hD hS hO hma hmo hro hcg
      obtain ⟨hw, hP, hD, hS, hO, hma, hmo, hro, hcg⟩ := id hv
      obtain ⟨vs, hob, hfN, hfM, hfMost, hfWidth, hfRode, hfMay, hfMust, hfLeast, hfLine⟩ := id hO
      refine lv_if_eq C.1 C.2.1 (zda zDX8_goSmooth 30 rfl rfl) (tgt := 140) (by decide) (fun h30 => ?_) (fun h30 => ?_)
      · refine K140 ws H locs ls (by omega) hv (fun σ h1 h2 he => ?_) hlv
        have a1 := (h1.1 h (Nat.le_refl _) (by omega)).2
        rw [← he] at a1
        have a2 := Nat.toNat_testBit ((Fa q).toInt.toNat) h
        have a3 : (Nat.testBit (Fa q).toInt.toNat h).toNat = 1 := by rw [a1]; rfl
        rw [a3] at a2
        rw [h30, Int32.toInt_zero] at hu
        omega
      · clear h30
        refine lv_aload_n C.1 C.2.1 (zda zDX8_goSmooth 33 rfl rfl) rfl (lv_at hlv 1 rfl) ?_
        refine zv_get C (zda zDX8_goSmooth 34 rfl rfl) (k := 29) (show vwCl[8]? = some (RX8, TX8, 51) from rfl) zinX8 (by decide) zw1201 hP hob hfRode ?_
        refine lv_iload_n C.1 C.2.1 (zda zDX8_goSmooth 37 rfl rfl) rfl (lv_at hlv 0 rfl) ?_
        refine zv_iald C (zda zDX8_goSmooth 38 rfl rfl) hP hro hxq hq8 ?_
        refine lv_aload_n C.1 C.2.1 (zda zDX8_goSmooth 39 rfl rfl) rfl (lv_at hlv 1 rfl) ?_
        refine zv_get C (zda zDX8_goSmooth 40 rfl rfl) (k := 4) (show vwCl[8]? = some (RX8, TX8, 51) from rfl) zinX8 (by decide) zw1176 hP hob hfMost ?_
        refine lv_iload_n C.1 C.2.1 (zda zDX8_goSmooth 43 rfl rfl) rfl (lv_at hlv 0 rfl) ?_
        refine zv_iald C (zda zDX8_goSmooth 44 rfl rfl) hP hmo hxq hq8 ?_
        refine lv_icmp_ne C.1 C.2.1 (zda zDX8_goSmooth 45 rfl rfl) (tgt := 51) (by decide) (fun h45 => ?_) (fun h45 => ?_)
        · have S1 : ∀ lb : Int, lb ≤ xl.toInt → zSat D vwCl tys (zwith o (fun i => if i = 1 then xh else if i = 2 then xl else xq)) z ws 6 s.heap (zgsc lb 0) ls [] H locs ws := by
            intro lb hlb
            have e0 : Int32.ofInt (.ofNat 0) = 0 := by decide
            refine ⟨⟨_, lv_sub hlv [1, 2, 3, 0] rfl, ⟨rfl, ⟨aM, zad_of hob, rfl⟩⟩, ⟨rfl, ⟨xh, rfl, ⟨by show (0 : Int) ≤ xh.toInt; omega, by show xh.toInt ≤ (7 : Int); omega⟩, (ztg_eq (q := (1, .ofNat 0)) (by decide)).mpr ?_⟩⟩, ⟨rfl, ⟨xl, rfl, ⟨hlb, (z32 xl).2⟩, (ztg_eq (q := (2, .ofNat 0)) (by decide)).mpr ?_⟩⟩, ⟨rfl, ⟨xq, rfl, ⟨by show (0 : Int) ≤ xq.toInt; omega, by show xq.toInt ≤ (7 : Int); omega⟩, (ztg_eq (q := (3, .ofNat 0)) (by decide)).mpr ?_⟩⟩, trivial⟩, trivial, ⟨hw.1, hw.2⟩, hP, hD, hS, zcg_rf⟩
            · show xh = xh + Int32.ofInt (.ofNat 0)
              rw [e0, Int32.add_zero]
            · show xl = xl + Int32.ofInt (.ofNat 0)
              rw [e0, Int32.add_zero]
            · show xq = xq + Int32.ofInt (.ofNat 0)
              rw [e0, Int32.add_zero]
          have K100 : ∀ (ws2 : va_W) (H : Heap) (locs : List Loc) (ls : Array Slot) (o9 : zO), zSat D vwCl tys (zwith o9 (zgv ls)) z ws 6 s.heap zgsd ls [] H locs ws2 → o9.1 = o.1 → o9.2.1 = o.2.1 → zgv ls 1 = xh → zgv ls 2 = xl → zgv ls 3 = xq → W p l e (zGsR (k + 1)) s m args below meth c0 H locs 0 0 Q (F0 m 100 ls []) := by
            intro ws2 H locs ls o9 S2 eo1 eo2 r1 r2 r3
            have hw2 : zwr vwCl tys o (zuW 0) ws2 := by
              obtain ⟨ob, oa, og⟩ := o9
              have eo1 : ob = o.1 := eo1
              have eo2 : oa = o.2.1 := eo2
              subst eo1
              subst eo2
              exact ⟨S2.2.2.1.1, S2.2.2.1.2⟩
            have hcg2 : zcg zmI ws ws2 := S2.2.2.2.2.2.2
            have hv := zGs_d hv hcg2 (fun k j h1 _ h3 => zmI_b h1 h3) zmG_1 hw2 S2.2.2.2.1 S2.2.2.2.2.1 S2.2.2.2.2.2.1 (zAr_cg hcg2 hro (zmI_b (by decide) (by decide)))
            obtain ⟨xa, hxa, hlv⟩ : ∃ xa : Int32, (0 ≤ xa.toInt ∧ xa.toInt ≤ 2000) ∧ lv_has ls 6 [(0, .ref aM), (1, .int xh), (2, .int xl), (3, .int xq), (4, .int xa)] := by
              obtain ⟨v0, l0, q0⟩ := zlv S2.1 (i := 0) (a := .inr (.inr (.inl 94))) rfl
              obtain ⟨v1, l1, q1⟩ := zlv S2.1 (i := 1) (a := .inl ((.ofNat 0, .ofNat 7), some (1, .ofNat 0))) rfl
              obtain ⟨v2, l2, q2⟩ := zlv S2.1 (i := 2) (a := .inl ((.negSucc 2147483647, .ofNat 2147483647), some (2, .ofNat 0))) rfl
              obtain ⟨v3, l3, q3⟩ := zlv S2.1 (i := 3) (a := .inl ((.ofNat 0, .ofNat 7), some (3, .ofNat 0))) rfl
              obtain ⟨v4, l4, q4⟩ := zlv S2.1 (i := 4) (a := .inl ((.ofNat 0, .ofNat 2000), some (4, .ofNat 0))) rfl
              obtain ⟨a0, ha0, rfl⟩ := q0
              obtain ⟨x1, rfl, -, -⟩ := zint q1
              obtain ⟨x2, rfl, -, -⟩ := zint q2
              obtain ⟨x3, rfl, -, -⟩ := zint q3
              obtain ⟨x4, rfl, ⟨b1, b2⟩, -⟩ := zint q4
              rw [zgv_lo (by decide) l1] at r1
              rw [zgv_lo (by decide) l2] at r2
              rw [zgv_lo (by decide) l3] at r3
              subst r1
              subst r2
              subst r3
              obtain ⟨vs9, hob9, -⟩ := zOb_cg hcg2 (fun j hj => zmI_b (by decide) (by omega)) hO
              rw [zad_of hob9] at ha0
              cases ha0
              obtain ⟨lv, s1, -⟩ := S2.1
              refine ⟨x4, ⟨b1, b2⟩, s1.1, s1.2.1, fun y hy => ?_⟩
              simp only [List.mem_cons, List.not_mem_nil, or_false] at hy
              rcases hy with rfl | rfl | rfl | rfl | rfl
              · exact l0
              · exact l1
              · exact l2
              · exact l3
              · exact l4
            clear hob hw hP hD hS hO hma hmo hro hcg S2 hw2
            obtain ⟨hw, hP, hD, hS, hO, hma, hmo, hro, hcg⟩ := id hv
            obtain ⟨vs, hob, hfN, hfM, hfMost, hfWidth, hfRode, hfMay, hfMust, hfLeast, hfLine⟩ := id hO
            refine lv_aload_n C.1 C.2.1 (zda zDX8_goSmooth 100 rfl rfl) rfl (lv_at hlv 0 rfl) ?_
            refine zv_get C (zda zDX8_goSmooth 101 rfl rfl) (k := 29) (show vwCl[8]? = some (RX8, TX8, 51) from rfl) zinX8 (by decide) zw1201 hP hob hfRode ?_
            refine lv_iload_n C.1 C.2.1 (zda zDX8_goSmooth 104 rfl rfl) rfl (lv_at hlv 3 rfl) ?_
            refine lv_dup2_11 C.1 C.2.1 (zda zDX8_goSmooth 105 rfl rfl) rfl rfl ?_
            refine zv_iald C (zda zDX8_goSmooth 106 rfl rfl) hP hro hxq hq8 ?_
            refine lv_iconst C.1 C.2.1 (zda zDX8_goSmooth 107 rfl rfl) rfl ?_
            refine lv_iadd C.1 C.2.1 (zda zDX8_goSmooth 108 rfl rfl) ?_
            refine zGs_store C (zda zDX8_goSmooth 109 rfl rfl) hv hxq hq8 (fun H locs ws3 hv3 => ?_)
            clear hob hw hP hD hS hO hma hmo hcg
            obtain ⟨hw, hP, hD, hS, hO, hma, hmo, hro3, hcg⟩ := id hv3
            obtain ⟨vs, hob, hfN, hfM, hfMost, hfWidth, hfRode, hfMay, hfMust, hfLeast, hfLine⟩ := id hO
            refine lv_aload_n C.1 C.2.1 (zda zDX8_goSmooth 110 rfl rfl) rfl (lv_at hlv 0 rfl) ?_
            refine lv_iload_n C.1 C.2.1 (zda zDX8_goSmooth 111 rfl rfl) rfl (lv_at hlv 1 rfl) ?_
            refine lv_iconst C.1 C.2.1 (zda zDX8_goSmooth 112 rfl rfl) rfl ?_
            refine lv_iadd C.1 C.2.1 (zda zDX8_goSmooth 113 rfl rfl) ?_
            refine lv_iload_n C.1 C.2.1 (zda zDX8_goSmooth 114 rfl rfl) rfl (lv_at hlv 2 rfl) ?_
            refine lv_iload C.1 C.2.1 (zda zDX8_goSmooth 115 rfl rfl) (lv_at hlv 4 rfl) ?_
            refine lv_isub C.1 C.2.1 (zda zDX8_goSmooth 117 rfl rfl) ?_
            refine zv_callV C zXX_ok zTs_good (IH (upd Fr q (Fr q + Int32.ofInt 1)) ws3 _ _ (zinc1 hh (by omega)) hO hma hmo hro3) rfl rfl (by show 20 + k + 1 ≤ 20 + (k + 1); omega) (by show 8 + (6 + 11) + (3000 + 100 * k) ≤ 3000 + 100 * (k + 1); omega) (ci := 8) (show vwCl[8]? = some (RX8, TX8, 51) from rfl) zw1684 zw1681 zw1683 zs144 zw16 (n := 2) (by decide +kernel) (zda zDX8_goSmooth 118 rfl rfl) rfl hob hw hP hD hS hlv.1 (by decide) (Nat.zero_le _) (Nat.zero_le _) (fun v ws4 H locs hc4 hw4 hP4 hD4 hS4 hq4 => ?_)
            obtain ⟨x5, rfl, hx5, hro4, hfe⟩ := hq4
            have hv4 := zGs_d hv3 hc4 (fun k j h1 h2 h3 => zmG_b h1 h2 h3) zmG_3 hw4 hP4 hD4 hS4 hro4
            clear hob hw hP hD hS hO hma hmo hcg hro3
            obtain ⟨hw, hP, hD, hS, hO, hma, hmo, hro5, hcg⟩ := id hv4
            obtain ⟨vs, hob, hfN, hfM, hfMost, hfWidth, hfRode, hfMay, hfMust, hfLeast, hfLine⟩ := id hO
            refine lv_istore C.1 C.2.1 (zda zDX8_goSmooth 121 rfl rfl) hlv (lv' := [(5, _), (0, .ref aM), (1, .int xh), (2, .int xl), (3, .int xq), (4, .int xa)]) (by decide) rfl (fun ls hlv => ?_)
            replace hlv : lv_has ls 6 [(5, .int x5), (0, .ref aM), (1, .int xh), (2, .int xl), (3, .int xq), (4, .int xa)] := hlv
            refine lv_aload_n C.1 C.2.1 (zda zDX8_goSmooth 123 rfl rfl) rfl (lv_at hlv 1 rfl) ?_
            refine zv_get C (zda zDX8_goSmooth 124 rfl rfl) (k := 29) (show vwCl[8]? = some (RX8, TX8, 51) from rfl) zinX8 (by decide) zw1201 hP hob hfRode ?_
            refine lv_iload_n C.1 C.2.1 (zda zDX8_goSmooth 127 rfl rfl) rfl (lv_at hlv 4 rfl) ?_
            refine lv_dup2_11 C.1 C.2.1 (zda zDX8_goSmooth 128 rfl rfl) rfl rfl ?_
            refine zv_iald C (zda zDX8_goSmooth 129 rfl rfl) hP hro5 hxq hq8 ?_
            refine lv_iconst C.1 C.2.1 (zda zDX8_goSmooth 130 rfl rfl) rfl ?_
            refine lv_isub C.1 C.2.1 (zda zDX8_goSmooth 131 rfl rfl) ?_
            refine zGs_store C (zda zDX8_goSmooth 132 rfl rfl) hv4 hxq hq8 (fun H locs ws6 hv6 => ?_)
            have e9 : upd (upd Fr q (Fr q + Int32.ofInt 1)) q (upd Fr q (Fr q + Int32.ofInt 1) q - Int32.ofInt 1) = Fr := by
              have e8 : upd Fr q (Fr q + Int32.ofInt 1) q = Fr q + Int32.ofInt 1 := by unfold upd; rw [if_pos rfl]
              rw [e8, zupd2, Int32.add_sub_cancel, zupd_s]
            rw [e9] at hv6
            refine lv_iload C.1 C.2.1 (zda zDX8_goSmooth 133 rfl rfl) (lv_at hlv 0 rfl) ?_
            refine lv_if_eq C.1 C.2.1 (zda zDX8_goSmooth 135 rfl rfl) (tgt := 140) (by decide) (fun h135 => ?_) (fun h135 => ?_)
            · refine K140 ws6 H locs ls (by omega) hv6 (fun σ h1 h2 he => ?_) (lv_sub hlv [4, 1, 2, 3] rfl)
              have hrm := (h1.1 h (Nat.le_refl _) (by omega)).1
              have hcap := h1.2 q (by omega)
              have hc1 := hFm q hq8
              have h9 := z32 (Fr q)
              have e7 : (Fr q + Int32.ofInt 1).toInt = (Fr q).toInt + 1 := by
                rw [Int32.toInt_add, show (Int32.ofInt 1).toInt = 1 by decide, zbm (B := 2147483648) (by decide) (by omega) (by dsimp only at hcap; omega)]
              have a1 := hfe σ (zFs_step h1 (fun r hr => ?_)) ?_
              · rw [a1] at h135
                exact absurd h135 (by decide)
              · unfold upd
                by_cases er : r = q
                · rw [if_pos er, if_pos (by omega), e7, er]
                · rw [if_neg er, if_neg (by omega)]
                  omega
              · rw [Int32.toInt_sub, zbm (B := 2147483648) (by decide) (by omega) (by have := (z32 xl).2; omega)]
                omega
            · refine lv_iconst C.1 C.2.1 (zda zDX8_goSmooth 138 rfl rfl) rfl ?_
              have hx1 : x5 = 1 := hx5.resolve_left h135
              exact hret 139 ls _ H locs ws6 rfl (zda zDX8_goSmooth 139 rfl rfl) hv6 (Or.inr rfl) (fun _ _ _ => rfl)
          obtain ⟨o2, ho2⟩ : ∃ o2 : zO, o2 = zwith o (fun i => if i = 1 then xh else if i = 2 then xl else xq) := ⟨_, rfl⟩
          rw [← ho2] at S1
          have ox : zXX o2 z = zXX o z := by rw [ho2]; rfl
          have o1 : o2.1 = o.1 ∧ o2.2.1 = o.2.1 ∧ o2.2.2 1 = xh ∧ o2.2.2 2 = xl ∧ o2.2.2 3 = xq := by rw [ho2]; exact ⟨rfl, rfl, rfl, rfl, rfl⟩
          have C2 : zCx p (zGsR (k + 1)) s m args meth c0 D vwCl tys z (zXX o2 z) zTs RX8 cX8_goSmooth 6 "goSmooth" := by rw [ox]; exact C
          by_cases hbig : 2000 ≤ xl.toInt
          · refine zstretch (zovW_ok (fun d h => absurd h List.not_mem_nil)) zXX_ok (zprog2_ok (o := o2) E) (fr := 20) (lo := 3000) (by show 20 ≤ 20 + (k + 1); omega) (by show 3000 ≤ 3000 + 100 * (k + 1); omega) (zc2 (okX8_goSmooth (o := o2) E) p e (zGsR (k + 1)) s m args below meth c0 Q ws rfl rfl C2) zgs_A (S1 (.ofNat 2000) hbig) ?_
            intro y hy ls2 H2 locs2 ws2 S2 ht
            simp only [List.mem_cons, List.not_mem_nil, or_false] at hy
            subst hy
            exact K100 ws2 H2 locs2 ls2 o2 S2 o1.1 o1.2.1 ((ht (1, 1) (by simp)).trans o1.2.2.1) ((ht (2, 2) (by simp)).trans o1.2.2.2.1) ((ht (3, 3) (by simp)).trans o1.2.2.2.2)
          · refine zstretch (zovW_ok (fun d h => absurd h List.not_mem_nil)) zXX_ok (zprog2_ok (o := o2) E) (fr := 20) (lo := 3000) (by show 20 ≤ 20 + (k + 1); omega) (by show 3000 ≤ 3000 + 100 * (k + 1); omega) (zc2 (okX8_goSmooth (o := o2) E) p e (zGsR (k + 1)) s m args below meth c0 Q ws rfl rfl C2) zgs_B (S1 (.negSucc 2147483647) (z32 xl).1) ?_
            intro y hy ls2 H2 locs2 ws2 S2 ht
            simp only [List.mem_cons, List.not_mem_nil, or_false] at hy
            rcases hy with rfl | rfl
            · exact K100 ws2 H2 locs2 ls2 o2 S2 o1.1 o1.2.1 ((ht (1, 1) (by simp)).trans o1.2.2.1) ((ht (2, 2) (by simp)).trans o1.2.2.2.1) ((ht (3, 3) (by simp)).trans o1.2.2.2.2)
            · have r1 : zgv ls2 1 = xh := (ht (1, 1) (by simp)).trans o1.2.2.1
              have r2 : zgv ls2 2 = xl := (ht (2, 2) (by simp)).trans o1.2.2.2.1
              have r3 : zgv ls2 3 = xq := (ht (3, 3) (by simp)).trans o1.2.2.2.2
              have hcg2 : zcg zmI ws ws2 := S2.2.2.2.2.2.2
              have hw2 : zwr vwCl tys o (zuW 0) ws2 := by
                rw [ho2] at S2
                exact ⟨S2.2.2.1.1, S2.2.2.1.2⟩
              have hv2 := zGs_d hv hcg2 (fun k j h1 _ h3 => zmI_b h1 h3) zmG_1 hw2 S2.2.2.2.1 S2.2.2.2.2.1 S2.2.2.2.2.2.1 (zAr_cg hcg2 hro (zmI_b (by decide) (by decide)))
              obtain ⟨v0, l0, q0⟩ := zlv S2.1 (i := 0) (a := .inr (.inr (.inl 94))) rfl
              obtain ⟨v1, l1, q1⟩ := zlv S2.1 (i := 1) (a := .inl ((.ofNat 0, .ofNat 7), some (1, .ofNat 0))) rfl
              obtain ⟨v2, l2, q2⟩ := zlv S2.1 (i := 2) (a := .inl ((.negSucc 2147483647, .ofNat 2147483647), some (2, .ofNat 0))) rfl
              obtain ⟨v3, l3, q3⟩ := zlv S2.1 (i := 3) (a := .inl ((.ofNat 0, .ofNat 7), some (3, .ofNat 0))) rfl
              obtain ⟨a0, ha0, rfl⟩ := q0
              obtain ⟨x1, rfl, -, -⟩ := zint q1
              obtain ⟨x2, rfl, -, -⟩ := zint q2
              obtain ⟨x3, rfl, -, -⟩ := zint q3
              rw [zgv_lo (by decide) l1] at r1
              rw [zgv_lo (by decide) l2] at r2
              rw [zgv_lo (by decide) l3] at r3
              subst r1
              subst r2
              subst r3
              obtain ⟨vs9, hob9, -⟩ := zOb_cg hcg2 (fun j hj => zmI_b (by decide) (by omega)) hO
              rw [zad_of hob9] at ha0
              cases ha0
              obtain ⟨lv, s1, -⟩ := S2.1
              refine K140 ws2 H2 locs2 ls2 (by omega) hv2 (fun σ h1 h2 => absurd h2 (by omega)) ⟨s1.1, s1.2.1, fun y hy => ?_⟩
              simp only [List.mem_cons, List.not_mem_nil, or_false] at hy
              rcases hy with rfl | rfl | rfl | rfl
              · exact l3
              · exact l0
              · exact l1
              · exact l2
        · refine lv_goto C.1 C.2.1 (zda zDX8_goSmooth 48 rfl rfl) (tgt := 140) (by decide) ?_
          refine K140 ws H locs ls (by omega) hv (fun σ h1 h2 he => ?_) hlv
          have a1 := h1.2 q (by omega)
          have a2 : zcn (fun i => decide (σ i = q)) h (k + 1) = (decide (σ h = q)).toNat + zcn (fun i => decide (σ i = q)) (h + 1) k := rfl
          rw [a2, decide_eq_true he.symm, show true.toNat = 1 from rfl] at a1
          dsimp only at a1
          rw [h45] at a1
          omega
set_option maxHeartbeats 4000000 in
theorem zu_gs (E : zEnv tys) {Mn nN : Nat} (hMn : Mn ≤ 8) (hM : M.toInt = (Mn : Int)) (hN : N.toInt = (nN : Int)) (hn : nN ≤ 8) (hFa : ∀ r, r < 8 → (Fa r).toInt = ((Fa r).toInt.toNat : Int) ∧ (Fa r).toInt.toNat < 256) (hFm : ∀ r, r < 8 → (Fm r).toInt ≤ 1000) : ∀ (k h : Nat), h + k = nN → ∀ (Fr : Nat → Int32) (ws : va_W) (xh xl : Int32), xh.toInt = (h : Int) → zOb ws aM N M aMost aWidth aRode aMay aMust aLeast aLine → zAr tys ws 111 aMay 8 Fa → zAr tys ws 96 aMost 8 Fm → zAr tys ws 108 aRode 8 Fr → zMetV l D vwCl tys o z (zXX o z) zTs mX8_goSmooth (20 + k) (3000 + 100 * k) (zuW 0) (zuW zmG) ws [.ref aM, .int xh, .int xl] (fun v ws' => ∃ x : Int32, v = .int x ∧ (x = 0 ∨ x = 1) ∧ zAr tys ws' 108 aRode 8 Fr ∧ ∀ σ, zFs (fun q => (Fa q).toInt.toNat) (fun q => (Fm q).toInt) Mn (fun q => (Fr q).toInt) h k σ → 2000 * (k : Int) ≤ xl.toInt → x = 1) := by
  intro k
  induction k with
  | zero =>
    intro h hk Fr ws xh xl hxh hO hma hmo hro
    refine zMetV_of (mr := mX8_goSmooth) (by decide) (by decide) (by decide) (show 3 ≤ 6 by decide) rfl rfl (ty := .boolean) rfl ?_
    intro p e s m below meth c0 Q ls C hw hP hD hret hlv
    replace C : zCx p (zGsR 0) s m ([.ref aM, .int xh, .int xl] : List Value).toArray meth c0 D vwCl tys z (zXX o z) zTs RX8 cX8_goSmooth 6 "goSmooth" := C
    have hlv : lv_has ls 6 [(0, .ref aM), (1, .int xh), (2, .int xl)] := hlv
    obtain ⟨vs, hob, hfN, hfM, hfMost, hfWidth, hfRode, hfMay, hfMust, hfLeast, hfLine⟩ := id hO
    refine lv_iload_n C.1 C.2.1 (zda zDX8_goSmooth 0 rfl rfl) rfl (lv_at hlv 1 rfl) ?_
    refine lv_aload_n C.1 C.2.1 (zda zDX8_goSmooth 1 rfl rfl) rfl (lv_at hlv 0 rfl) ?_
    refine zv_get C (zda zDX8_goSmooth 2 rfl rfl) (k := 1) (show vwCl[8]? = some (RX8, TX8, 51) from rfl) zinX8 (by decide) zw1173 hP hob hfN ?_
    refine lv_icmp_ne C.1 C.2.1 (zda zDX8_goSmooth 5 rfl rfl) (tgt := 10) (by decide) (fun h5 => ?_) (fun h5 => ?_)
    · exfalso
      apply h5
      apply Int32.toInt_inj.mp
      rw [hxh, hN]
      omega
    · skip
      refine lv_iconst C.1 C.2.1 (zda zDX8_goSmooth 8 rfl rfl) rfl ?_
      exact hret 9 ls _ _ [] ws rfl (zda zDX8_goSmooth 9 rfl rfl) zcg_rf ⟨hw.1, hw.2⟩ hP hD va_S.rf ⟨_, rfl, Or.inr rfl, hro, fun _ _ _ => rfl⟩
  | succ k ih =>
    intro h hk Fr ws xh xl hxh hO hma hmo hro
    refine zMetV_of (mr := mX8_goSmooth) (by decide) (by omega) (by omega) (show 3 ≤ 6 by decide) rfl rfl (ty := .boolean) rfl ?_
    intro p e s m below meth c0 Q ls C hw hP hD hret hlv
    replace C : zCx p (zGsR (k + 1)) s m ([.ref aM, .int xh, .int xl] : List Value).toArray meth c0 D vwCl tys z (zXX o z) zTs RX8 cX8_goSmooth 6 "goSmooth" := C
    have hlv : lv_has ls 6 [(0, .ref aM), (1, .int xh), (2, .int xl)] := hlv
    obtain ⟨vs, hob, hfN, hfM, hfMost, hfWidth, hfRode, hfMay, hfMust, hfLeast, hfLine⟩ := id hO
    refine lv_iload_n C.1 C.2.1 (zda zDX8_goSmooth 0 rfl rfl) rfl (lv_at hlv 1 rfl) ?_
    refine lv_aload_n C.1 C.2.1 (zda zDX8_goSmooth 1 rfl rfl) rfl (lv_at hlv 0 rfl) ?_
    refine zv_get C (zda zDX8_goSmooth 2 rfl rfl) (k := 1) (show vwCl[8]? = some (RX8, TX8, 51) from rfl) zinX8 (by decide) zw1173 hP hob hfN ?_
    refine lv_icmp_ne C.1 C.2.1 (zda zDX8_goSmooth 5 rfl rfl) (tgt := 10) (by decide) (fun h5 => ?_) (fun h5 => ?_)
    · skip
      refine lv_iconst C.1 C.2.1 (zda zDX8_goSmooth 10 rfl rfl) rfl ?_
      refine lv_istore_n C.1 C.2.1 (zda zDX8_goSmooth 11 rfl rfl) rfl hlv (lv' := [(3, _), (0, .ref aM), (1, .int xh), (2, .int xl)]) (by decide) rfl (fun ls hlv => ?_)
      refine zgL E C hMn hM hxh (by omega) hFa hFm (fun Fr ws xh xl e1 e2 e3 e4 e5 => ih (h + 1) (by omega) Fr ws xh xl e1 e2 e3 e4 e5) (fun pc ls x H locs ws' e1 e2 e3 e4 e5 => ?_) (Mn + 1) 0 _ ws s.heap [] ls (Nat.lt_succ_of_le (Nat.sub_le _ _)) (Nat.zero_le _) rfl ⟨hw, hP, hD, va_S.rf, hO, hma, hmo, hro, zcg_rf⟩ (fun _ _ _ => Nat.zero_le _) hlv
      obtain ⟨f1, f2, f3, f4, f5, f6, f7, f8, f9⟩ := e3
      exact hret pc ls x H locs ws' e1 e2 f9 ⟨f1.1, f1.2⟩ f2 f3 f4 ⟨x, rfl, e4, f8, e5⟩
    · exfalso
      have h8 : xh.toInt = N.toInt := by rw [h5]
      omega
end ZGOS
