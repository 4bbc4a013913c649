section ZSOLM
variable {p : Program} {l : Launch} {e : Env} {s : State} {m : MethodId} {args : Array Value} {below : List Frame} {meth : Method} {c0 : Code} {Q : State → Prop} {D : va_G} {tys : List (ClassId × FieldType)} {o : zO} {z : Nat}
variable {aM : Nat} {N M : Int32} {aMost aWidth aRode aMay aMust aLeast aLine : Nat} {Fa Fm : Nat → Int32} {ws0 : va_W}
set_option maxRecDepth 100000 in
theorem zu_co_t : zrunw zprog2 (zovW []) 1000 zcut0 5 1000 kX8_costOf (zkin (some (.inl ((.ofNat 0, .ofNat 0), none))) (zuW 0)) 0 (zargs 0 [.inr (.inr (.inl 94)), .inl ((.ofNat 2, .ofNat 2), none), .inl ((.ofNat 0, .ofNat 7), none), .inl ((.ofNat 0, .ofNat 255), none)], [], (126, zuw, 0), 0, 0) = true := by decide +kernel
theorem zu_co (E : zEnv tys) {ws : va_W} (ha : zad ws 94 = some aM) {xw xr xo : Int32} {r own : Nat} (hxw : xw.toInt = ((2 : Nat) : Int)) (hr : xr.toInt = (r : Int)) (hr8 : r < 8) (ho : xo.toInt = (own : Int)) (ho8 : own < 256) : zMetV l D vwCl tys o z (zXX o z) zTs mX8_costOf 5 1000 (zuW 0) (zuW 0) ws [.ref aM, .int xw, .int xr, .int xo] (fun v _ => ∃ x : Int32, v = .int x) := by
  have hM : zMet l D vwCl tys o z (zXX o z) zTs mX8_costOf 5 1000 (zuW 0) [.inr (.inr (.inl 94)), .inl ((.ofNat 2, .ofNat 2), none), .inl ((.ofNat 0, .ofNat 7), none), .inl ((.ofNat 0, .ofNat 255), none)] (zkin (some (.inl ((.ofNat 0, .ofNat 0), none))) (zuW 0)) := zMet_run (fun g => zovW_ok (fun d h => absurd h List.not_mem_nil)) zXX_ok (fun g => zprog2_ok (o := zwith o g) E) (show zget zprog2 199 = some mX8_costOf from rfl) (by decide) (by decide) (show 4 ≤ 4 by decide) (show 4 ≤ 700 by decide) zu_co_t
  refine zMetV_mono (zMetV_zMet hM ⟨⟨aM, ha, rfl⟩, zex1 hxw, ⟨xr, rfl, by show (0 : Int) ≤ xr.toInt; omega, by show xr.toInt ≤ (7 : Int); omega⟩, ⟨xo, rfl, by show (0 : Int) ≤ xo.toInt; omega, by show xo.toInt ≤ (255 : Int); omega⟩, trivial⟩) (fun v ws' _ h => ?_)
  obtain ⟨x, hx, -⟩ := h
  exact ⟨x, hx⟩
set_option maxHeartbeats 2000000 in
theorem zsL4 (E : zEnv tys) (C : zCx p zSvR s m args meth c0 D vwCl tys z (zXX o z) zTs RX8 cX8_solve 8 "solve") {nN Mn r : Nat} {xr xw : Int32} (hN : N.toInt = (nN : Int)) (hn : nN < 9) (hMn : Mn ≤ 8) (hxw : xw.toInt = ((2 : Nat) : Int)) (hr : xr.toInt = (r : Int)) (hrM : r < Mn) (hFa : (Fa r).toInt = ((Fa r).toInt.toNat : Int) ∧ (Fa r).toInt.toNat < 256) (K233 : ∀ (F : Nat → Int32) (ws : va_W) (H : Heap) (locs : List Loc) (ls : Array Slot), zSv D tys o z s aM N M aMost aWidth aRode aMay aMust aLeast aLine Fa Fm ws0 F ws H locs → zGd (fun q => (Fa q).toInt.toNat) (fun q => (Fm q).toInt) Mn (2 ^ nN - 1) r F → lv_has ls 8 [(2, .int xr), (0, .ref aM), (1, .int xw)] → W p l e zSvR s m args below meth c0 H locs 0 0 Q (F0 m 233 ls [])) : ∀ (n own : Nat) (xo : Int32) (F : Nat → Int32) (ws : va_W) (H : Heap) (locs : List Loc) (ls : Array Slot), own < n → own < 256 → xo.toInt = (own : Int) → own &&& (Fa r).toInt.toNat = own → zSv D tys o z s aM N M aMost aWidth aRode aMay aMust aLeast aLine Fa Fm ws0 F ws H locs → zGd (fun q => (Fa q).toInt.toNat) (fun q => (Fm q).toInt) Mn (2 ^ nN - 1) r F → lv_has ls 8 [(3, .int xo), (2, .int xr), (0, .ref aM), (1, .int xw)] → W p l e zSvR s m args below meth c0 H locs 0 0 Q (F0 m 87 ls []) := by
  intro n
  induction n with
  | zero => intro own xo F ws H locs ls h; omega
  | succ n ih =>
    intro own xo F ws H locs ls hon ho8 ho hom hv hg hlv
    have back : ∀ (F : Nat → Int32) (ws : va_W) (H : Heap) (locs : List Loc) (ls : Array Slot), zSv D tys o z s aM N M aMost aWidth aRode aMay aMust aLeast aLine Fa Fm ws0 F ws H locs → zGd (fun q => (Fa q).toInt.toNat) (fun q => (Fm q).toInt) Mn (2 ^ nN - 1) r F → lv_has ls 8 [(3, .int xo), (2, .int xr), (0, .ref aM), (1, .int xw)] → W p l e zSvR s m args below meth c0 H locs 0 0 Q (F0 m 211 ls []) := by
      intro F ws H locs ls hv hg hlv
      obtain ⟨hw, hP, hD, hS, hO, hma, hmo, hle, hcg, hFb⟩ := id hv
      obtain ⟨vs, hob, hfN, hfM, hfMost, hfWidth, hfRode, hfMay, hfMust, hfLeast, hfLine⟩ := id hO
      refine lv_iload_n C.1 C.2.1 (zda zDX8_solve 211 rfl rfl) rfl (lv_at hlv 0 rfl) ?_
      refine lv_if_ne C.1 C.2.1 (zda zDX8_solve 212 rfl rfl) (tgt := 219) (by decide) (fun h212 => ?_) (fun h212 => ?_)
      · refine lv_iload_n C.1 C.2.1 (zda zDX8_solve 219 rfl rfl) rfl (lv_at hlv 0 rfl) ?_
        refine lv_iconst C.1 C.2.1 (zda zDX8_solve 220 rfl rfl) rfl ?_
        refine lv_isub C.1 C.2.1 (zda zDX8_solve 221 rfl rfl) ?_
        refine lv_aload_n C.1 C.2.1 (zda zDX8_solve 222 rfl rfl) rfl (lv_at hlv 2 rfl) ?_
        refine zv_get C (zda zDX8_solve 223 rfl rfl) (k := 32) (show vwCl[8]? = some (RX8, TX8, 51) from rfl) zinX8 (by decide) zw1204 hP hob hfMay ?_
        refine lv_iload_n C.1 C.2.1 (zda zDX8_solve 226 rfl rfl) rfl (lv_at hlv 1 rfl) ?_
        refine zv_iald C (zda zDX8_solve 227 rfl rfl) hP hma hr (by omega) ?_
        refine lv_iand C.1 C.2.1 (zda zDX8_solve 228 rfl rfl) ?_
        refine lv_istore_n C.1 C.2.1 (zda zDX8_solve 229 rfl rfl) rfl hlv (lv' := [(3, _), (2, .int xr), (0, .ref aM), (1, .int xw)]) (by decide) rfl (fun ls hlv => ?_)
        refine lv_goto C.1 C.2.1 (zda zDX8_solve 230 rfl rfl) (tgt := 87) (by decide) ?_
        have h0 : 0 < own := by
          rcases Nat.eq_zero_or_pos own with h | h
          · exfalso
            apply h212
            apply Int32.toInt_inj.mp
            rw [ho, h]
            rfl
          · exact h
        refine ih ((own - 1) &&& (Fa r).toInt.toNat) _ F ws H locs ls (Nat.lt_of_le_of_lt Nat.and_le_left (by omega)) (Nat.lt_of_le_of_lt Nat.and_le_left (by omega)) (zdec1 ho h0 hFa.1) (by rw [Nat.and_assoc, Nat.and_self]) hv hg hlv
      · refine lv_iconst C.1 C.2.1 (zda zDX8_solve 215 rfl rfl) rfl ?_
        refine lv_goto C.1 C.2.1 (zda zDX8_solve 216 rfl rfl) (tgt := 229) (by decide) ?_
        refine lv_istore_n C.1 C.2.1 (zda zDX8_solve 229 rfl rfl) rfl hlv (lv' := [(3, _), (2, .int xr), (0, .ref aM), (1, .int xw)]) (by decide) rfl (fun ls hlv => ?_)
        refine lv_goto C.1 C.2.1 (zda zDX8_solve 230 rfl rfl) (tgt := 87) (by decide) ?_
        refine lv_iload_n C.1 C.2.1 (zda zDX8_solve 87 rfl rfl) rfl (lv_at hlv 0 rfl) ?_
        refine lv_if_lt C.1 C.2.1 (zda zDX8_solve 88 rfl rfl) (tgt := 233) (by decide) (fun h88 => ?_) (fun h88 => ?_)
        · exact K233 F ws H locs ls hv hg (lv_sub hlv [1, 2, 3] rfl)
        · exact absurd (by decide) h88
    obtain ⟨hw, hP, hD, hS, hO, hma, hmo, hle, hcg, hFb⟩ := id hv
    obtain ⟨vs, hob, hfN, hfM, hfMost, hfWidth, hfRode, hfMay, hfMust, hfLeast, hfLine⟩ := id hO
    refine lv_iload_n C.1 C.2.1 (zda zDX8_solve 87 rfl rfl) rfl (lv_at hlv 0 rfl) ?_
    refine lv_if_lt C.1 C.2.1 (zda zDX8_solve 88 rfl rfl) (tgt := 233) (by decide) (fun h88 => ?_) (fun h88 => ?_)
    · exact (zlt0 ho h88).elim
    · refine lv_aload_n C.1 C.2.1 (zda zDX8_solve 91 rfl rfl) rfl (lv_at hlv 2 rfl) ?_
      refine lv_iload_n C.1 C.2.1 (zda zDX8_solve 92 rfl rfl) rfl (lv_at hlv 1 rfl) ?_
      refine lv_iload_n C.1 C.2.1 (zda zDX8_solve 93 rfl rfl) rfl (lv_at hlv 0 rfl) ?_
      refine zv_callV C zXX_ok zTs_good (zu_ct E hO hmo hr (by omega) ho ho8) rfl rfl (by decide) (by decide) (ci := 8) (show vwCl[8]? = some (RX8, TX8, 51) from rfl) zw1572 zw1569 zw1571 zs131 zw16 (n := 2) (by decide +kernel) (zda zDX8_solve 94 rfl rfl) rfl hob hw hP hD hS hlv.1 (by decide) (Nat.zero_le _) (Nat.zero_le _) (fun v ws H locs hc hw hP hD hS hq => ?_)
      have hv := zSv_call hv hc hw hP hD hS
      rcases hq with rfl | ⟨rfl, hoc⟩
      · refine lv_if_ne C.1 C.2.1 (zda zDX8_solve 97 rfl rfl) (tgt := 103) (by decide) (fun h97 => ?_) (fun h97 => ?_)
        · exact absurd rfl h97
        · refine lv_goto C.1 C.2.1 (zda zDX8_solve 100 rfl rfl) (tgt := 211) (by decide) ?_
          exact back F ws H locs ls hv hg hlv
      · refine lv_if_ne C.1 C.2.1 (zda zDX8_solve 97 rfl rfl) (tgt := 103) (by decide) (fun h97 => ?_) (fun h97 => ?_)
        · clear hob hw hP hD hS hO hma hmo hle hcg hFb
          obtain ⟨hw, hP, hD, hS, hO, hma, hmo, hle, hcg, hFb⟩ := id hv
          obtain ⟨vs, hob, hfN, hfM, hfMost, hfWidth, hfRode, hfMay, hfMust, hfLeast, hfLine⟩ := id hO
          refine lv_aload_n C.1 C.2.1 (zda zDX8_solve 103 rfl rfl) rfl (lv_at hlv 2 rfl) ?_
          refine lv_iload_n C.1 C.2.1 (zda zDX8_solve 104 rfl rfl) rfl (lv_at hlv 3 rfl) ?_
          refine lv_iload_n C.1 C.2.1 (zda zDX8_solve 105 rfl rfl) rfl (lv_at hlv 1 rfl) ?_
          refine lv_iload_n C.1 C.2.1 (zda zDX8_solve 106 rfl rfl) rfl (lv_at hlv 0 rfl) ?_
          refine zv_callV C zXX_ok zTs_good (zu_co E (zad_of hob) hxw hr (by omega) ho ho8) rfl rfl (by decide) (by decide) (ci := 8) (show vwCl[8]? = some (RX8, TX8, 51) from rfl) zw1580 zw1577 zw1579 zs133 zw16 (n := 3) (by decide +kernel) (zda zDX8_solve 107 rfl rfl) rfl hob hw hP hD hS hlv.1 (by decide) (Nat.zero_le _) (Nat.zero_le _) (fun v ws H locs hc hw hP hD hS hq => ?_)
          have hv := zSv_call hv hc hw hP hD hS
          obtain ⟨xc, rfl⟩ := hq
          clear hob hw hP hD hS hO hma hmo hle hcg hFb
          obtain ⟨hw, hP, hD, hS, hO, hma, hmo, hle, hcg, hFb⟩ := id hv
          obtain ⟨vs, hob, hfN, hfM, hfMost, hfWidth, hfRode, hfMay, hfMust, hfLeast, hfLine⟩ := id hO
          refine lv_istore C.1 C.2.1 (zda zDX8_solve 110 rfl rfl) hlv (lv' := [(4, _), (3, .int xo), (2, .int xr), (0, .ref aM), (1, .int xw)]) (by decide) rfl (fun ls hlv => ?_)
          refine lv_aload_n C.1 C.2.1 (zda zDX8_solve 112 rfl rfl) rfl (lv_at hlv 3 rfl) ?_
          refine zv_callV C zXX_ok zTs_good (zu_night hO) rfl rfl (by decide) (by decide) (ci := 8) (show vwCl[8]? = some (RX8, TX8, 51) from rfl) zw1564 zw1561 zw1563 zs129 zw16 (n := 0) (by decide +kernel) (zda zDX8_solve 113 rfl rfl) rfl hob hw hP hD hS hlv.1 (by decide) (Nat.zero_le _) (Nat.zero_le _) (fun v ws H locs hc hw hP hD hS hq => ?_)
          have hv := zSv_call hv hc hw hP hD hS
          subst hq
          refine lv_iload_n C.1 C.2.1 (zda zDX8_solve 116 rfl rfl) rfl (lv_at hlv 1 rfl) ?_
          refine lv_iconst C.1 C.2.1 (zda zDX8_solve 117 rfl rfl) rfl ?_
          refine lv_ixor C.1 C.2.1 (zda zDX8_solve 118 rfl rfl) ?_
          refine lv_iand C.1 C.2.1 (zda zDX8_solve 119 rfl rfl) ?_
          refine lv_istore C.1 C.2.1 (zda zDX8_solve 120 rfl rfl) hlv (lv' := [(5, _), (4, .int xc), (3, .int xo), (2, .int xr), (0, .ref aM), (1, .int xw)]) (by decide) rfl (fun ls hlv => ?_)
          refine lv_iload C.1 C.2.1 (zda zDX8_solve 122 rfl rfl) (lv_at hlv 0 rfl) ?_
          refine lv_istore C.1 C.2.1 (zda zDX8_solve 124 rfl rfl) hlv (lv' := [(6, _), (5, _), (4, .int xc), (3, .int xo), (2, .int xr), (0, .ref aM), (1, .int xw)]) (by decide) rfl (fun ls hlv => ?_)
          have hrs := zrst hN hn ho ho8
          exact zsL5 (may := fun q => (Fa q).toInt.toNat) (cap := fun q => (Fm q).toInt) C hn hMn hr hrM ho ho8 hom hoc hrs rfl back 256 _ _ F ws H locs ls (Nat.lt_of_le_of_lt Nat.and_le_right (by omega)) hrs (Nat.and_self _) hv hg hlv
        · exact absurd h97 (by decide)
end ZSOLM
