/-! smoothest() from its solve() on -/
abbrev zSmR : Room := { frames := 250, cells := 0, slots := 0, locals := 30000 }
def zmX : Nat := Nat.lor zmL zmG
theorem zmX_1 : zsm zmL zmX = true := by decide +kernel
theorem zFs_ext {may : Nat → Nat} {cap : Nat → Int} {M h k : Nat} {Fr Fr' : Nat → Int} {σ : Nat → Nat} (hF : ∀ r, r < M → Fr' r = Fr r) (hs : zFs may cap M Fr h k σ) : zFs may cap M Fr' h k σ := ⟨hs.1, fun r hr => by rw [hF r hr]; exact hs.2 r hr⟩
section ZSMO
variable {p : Program} {l : Launch} {e : Env} {s : State} {m : MethodId} {args : Array Value} {below : List Frame} {meth : Method} {c0 : Code} {Q : State → Prop} {D : va_G} {tys : List (ClassId × FieldType)} {o : zO} {z : Nat}variable {aM : Nat} {N M : Int32} {aMost aWidth aRode aMay aMust aLeast aLine : Nat} {Fa Fm : Nat → Int32} {ws0 : va_W}
set_option maxHeartbeats 2000000 in
theorem zsmV (E : zEnv tys) (C : zCx p zSmR s m args meth c0 D vwCl tys z (zXX o z) zTs RX8 cX8_smoothest 2 "smoothest") {nN Mn : Nat} (hn : nN ≤ 8) (hN : N.toInt = (nN : Int)) (hMn : Mn ≤ 8) (hM : M.toInt = (Mn : Int)) (hFa : ∀ r, r < 8 → (Fa r).toInt = ((Fa r).toInt.toNat : Int) ∧ (Fa r).toInt.toNat < 256) (hFm : ∀ r, r < 8 → (Fm r).toInt ≤ 1000) {Fr : Nat → Int32} {σ : Nat → Nat} (hσ : zFs (fun q => (Fa q).toInt.toNat) (fun q => (Fm q).toInt) Mn (fun q => (Fr q).toInt) 0 nN σ) (K61 : ∀ (xv : Int32) (ws : va_W) (H : Heap) (locs : List Loc) (ls : Array Slot), zGs D tys o z s aM N M aMost aWidth aRode aMay aMust aLeast aLine Fa Fm ws0 Fr ws H locs → lv_has ls 2 [(1, .int xv), (0, .ref aM)] → W p l e zSmR s m args below meth c0 H locs 0 0 Q (F0 m 61 ls [])) : ∀ (n v : Nat) (xv : Int32) (ws : va_W) (H : Heap) (locs : List Loc) (ls : Array Slot), 16000 - v < n → v ≤ 16000 → xv.toInt = (v : Int) → zGs D tys o z s aM N M aMost aWidth aRode aMay aMust aLeast aLine Fa Fm ws0 Fr ws H locs → lv_has ls 2 [(1, .int xv), (0, .ref aM)] → W p l e zSmR s m args below meth c0 H locs 0 0 Q (F0 m 46 ls []) := by
  intro n
  induction n with
  | zero => intro v xv ws H locs ls h; omega
  | succ n ih =>
    intro v xv ws H locs ls hvn hv16 hxv hv hlv
    obtain ⟨hw, hP, hD, hS, hO, hma, hmo, hro, hcg⟩ := id hv
    obtain ⟨vs, hob, hfN, hfM, hfMost, hfWidth, hfRode, hfMay, hfMust, hfLeast, hfLine⟩ := id hO
    refine lv_aload_n C.1 C.2.1 (zda zDX8_smoothest 46 rfl rfl) rfl (lv_at hlv 1 rfl) ?_
    refine lv_iconst C.1 C.2.1 (zda zDX8_smoothest 47 rfl rfl) rfl ?_
    refine lv_iload_n C.1 C.2.1 (zda zDX8_smoothest 48 rfl rfl) rfl (lv_at hlv 0 rfl) ?_
    refine zv_callV C zXX_ok zTs_good (zu_gs (o := o) E hMn hM hN hn hFa hFm nN 0 (Nat.zero_add _) Fr ws (Int32.ofInt 0) xv (by decide) hO hma hmo hro) rfl rfl (by show 20 + nN + 1 ≤ 250; omega) (by show 8 + (6 + 11) + (3000 + 100 * nN) ≤ 30000; omega) (ci := 8) (show vwCl[8]? = some (RX8, TX8, 51) from rfl) zw1684 zw1681 zw1683 zs144 zw16 (n := 2) (by decide +kernel) (zda zDX8_smoothest 49 rfl rfl) rfl hob hw hP hD hS hlv.1 (by decide) (Nat.zero_le _) (Nat.zero_le _) (fun v9 ws1 H1 locs1 hc1 hw1 hP1 hD1 hS1 hq1 => ?_)
    obtain ⟨x5, rfl, hx5, hro1, hfe⟩ := hq1
    have hv1 := zGs_d hv hc1 (fun k j h1 h2 h3 => zmG_b h1 h2 h3) zmG_3 hw1 hP1 hD1 hS1 hro1
    refine lv_if_ne C.1 C.2.1 (zda zDX8_smoothest 52 rfl rfl) (tgt := 61) (by decide) (fun h52 => ?_) (fun h52 => ?_)
    · exact K61 xv ws1 H1 locs1 ls hv1 hlv
    · have hlt : v < 16000 := by
        rcases Nat.lt_or_ge v 16000 with h | h
        · exact h
        · exfalso
          have := hfe σ hσ (by omega)
          rw [h52] at this
          exact absurd this (by decide)
      refine lv_iinc C.1 C.2.1 (zda zDX8_smoothest 55 rfl rfl) hlv (k := 0) rfl rfl (by decide) (lv' := [(1, _), (0, .ref aM)]) rfl (fun ls hlv => ?_)
      refine lv_goto C.1 C.2.1 (zda zDX8_smoothest 58 rfl rfl) (tgt := 46) (by decide) ?_
      refine ih (v + 1) _ ws1 H1 locs1 ls (by omega) (by omega) ?_ hv1 hlv
      rw [Int32.toInt_add, show (Int32.ofInt 1).toInt = 1 by decide, hxv, zbm (B := 2147483648) (by decide) (by omega) (by omega)]
      omega
set_option maxHeartbeats 2000000 in
theorem zsmR (C : zCx p zSmR s m args meth c0 D vwCl tys z (zXX o z) zTs RX8 cX8_smoothest 2 "smoothest") (K44 : ∀ (xv : Int32) (Fr : Nat → Int32) (ws : va_W) (H : Heap) (locs : List Loc) (ls : Array Slot), (∀ i, i < 8 → Fr i = Int32.ofInt 0) → zGs D tys o z s aM N M aMost aWidth aRode aMay aMust aLeast aLine Fa Fm ws0 Fr ws H locs → lv_has ls 2 [(1, .int xv), (0, .ref aM)] → W p l e zSmR s m args below meth c0 H locs 0 0 Q (F0 m 44 ls [])) : ∀ (n j : Nat) (xv : Int32) (Fr : Nat → Int32) (ws : va_W) (H : Heap) (locs : List Loc) (ls : Array Slot), 8 - j < n → j ≤ 8 → xv.toInt = (j : Int) → (∀ i, i < j → Fr i = Int32.ofInt 0) → zGs D tys o z s aM N M aMost aWidth aRode aMay aMust aLeast aLine Fa Fm ws0 Fr ws H locs → lv_has ls 2 [(1, .int xv), (0, .ref aM)] → W p l e zSmR s m args below meth c0 H locs 0 0 Q (F0 m 25 ls []) := by
  intro n
  induction n with
  | zero => intro j xv Fr ws H locs ls h; omega
  | succ n ih =>
    intro j xv Fr ws H locs ls hjn hj8 hxv hF hv hlv
    obtain ⟨hw, hP, hD, hS, hO, hma, hmo, hro, hcg⟩ := id hv
    obtain ⟨vs, hob, hfN, hfM, hfMost, hfWidth, hfRode, hfMay, hfMust, hfLeast, hfLine⟩ := id hO
    refine lv_iload_n C.1 C.2.1 (zda zDX8_smoothest 25 rfl rfl) rfl (lv_at hlv 0 rfl) ?_
    refine lv_bipush C.1 C.2.1 (zda zDX8_smoothest 26 rfl rfl) rfl ?_
    refine lv_icmp_ge C.1 C.2.1 (zda zDX8_smoothest 28 rfl rfl) (tgt := 44) (by decide) (fun h28 => ?_) (fun h28 => ?_)
    · rw [Int32.le_iff_toInt_le, hxv, show ((Int8.ofInt 8).toInt32).toInt = 8 by decide] at h28
      exact K44 xv Fr ws H locs ls (fun i hi => hF i (by omega)) hv hlv
    · rw [Int32.le_iff_toInt_le, hxv, show ((Int8.ofInt 8).toInt32).toInt = 8 by decide] at h28
      refine lv_aload_n C.1 C.2.1 (zda zDX8_smoothest 31 rfl rfl) rfl (lv_at hlv 1 rfl) ?_
      refine zv_get C (zda zDX8_smoothest 32 rfl rfl) (k := 29) (show vwCl[8]? = some (RX8, TX8, 51) from rfl) zinX8 (by decide) zw1201 hP hob hfRode ?_
      refine lv_iload_n C.1 C.2.1 (zda zDX8_smoothest 35 rfl rfl) rfl (lv_at hlv 0 rfl) ?_
      refine lv_iconst C.1 C.2.1 (zda zDX8_smoothest 36 rfl rfl) rfl ?_
      refine zGs_store C (zda zDX8_smoothest 37 rfl rfl) hv hxv (by omega) (fun H locs ws1 hv1 => ?_)
      refine lv_iinc C.1 C.2.1 (zda zDX8_smoothest 38 rfl rfl) hlv (k := 0) rfl rfl (by decide) (lv' := [(1, _), (0, .ref aM)]) rfl (fun ls hlv => ?_)
      refine lv_goto C.1 C.2.1 (zda zDX8_smoothest 41 rfl rfl) (tgt := 25) (by decide) ?_
      refine ih (j + 1) _ _ ws1 H locs ls (by omega) (by omega) (zinc1 hxv (by omega)) (fun i hi => ?_) hv1 hlv
      unfold upd
      split
      · rfl
      · exact hF i (by omega)
set_option maxHeartbeats 4000000 in
theorem zsm10 (E : zEnv tys) (C : zCx p zSmR s m args meth c0 D vwCl tys z (zXX o z) zTs RX8 cX8_smoothest 2 "smoothest") {ws : va_W} {H : Heap} {locs : List Loc} {ls : Array Slot} (hw : zwr vwCl tys o (zuW 0) ws) (hP : va_P D vwCl ws H) (hD : va_D (zA z) ws) (hS : va_S (zA z) s.heap H locs) (ha : zad ws 94 = some aM) (hlv : lv_has ls 2 [(0, .ref aM)])
    (K20 : ∀ (ws' : va_W) (H : Heap) (locs : List Loc) (ls : Array Slot), zcg zmX ws ws' → zwr vwCl tys o (zuW 0) ws' → va_P D vwCl ws' H → va_D (zA z) ws' → va_S (zA z) s.heap H locs → zad ws' 94 = some aM → lv_has ls 2 [(0, .ref aM)] → W p l e zSmR s m args below meth c0 H locs 0 0 Q (F0 m 20 ls []))
    (K61 : ∀ (xv : Int32) (ws' : va_W) (H : Heap) (locs : List Loc) (ls : Array Slot), zcg zmX ws ws' → zwr vwCl tys o (zuW 0) ws' → va_P D vwCl ws' H → va_D (zA z) ws' → va_S (zA z) s.heap H locs → zad ws' 94 = some aM → lv_has ls 2 [(1, .int xv), (0, .ref aM)] → W p l e zSmR s m args below meth c0 H locs 0 0 Q (F0 m 61 ls [])) : W p l e zSmR s m args below meth c0 H locs 0 0 Q (F0 m 10 ls []) := by
  obtain ⟨aM', N, M, aMost, aWidth, aRode, aMay, aMust, aLeast, aLine, hO, z94, hN8, hM8, z96, z97, z108, z111, z112, z116, z118⟩ := zOb_of hw
  rw [ha] at z94
  cases z94
  obtain ⟨nN, hn1, hn8, hN, hnt⟩ := znt_ok hN8
  obtain ⟨hM1, hM2⟩ := hM8
  have hM1 : (0 : Int) ≤ M.toInt := hM1
  have hM2 : M.toInt ≤ (8 : Int) := hM2
  obtain ⟨Mn, hM⟩ : ∃ Mn : Nat, M.toInt = (Mn : Int) := ⟨M.toInt.toNat, by omega⟩
  obtain ⟨a1, Fa, hma, h1, hfa⟩ := zAr_of hw (n := 8) zu_may (show 111 < 126 by decide)
  obtain ⟨a2, Fm, hmo, h2, hfm⟩ := zAr_of hw (n := 8) zu_most (show 96 < 126 by decide)
  rw [z111] at h1
  cases h1
  rw [z96] at h2
  cases h2
  have hFa : ∀ r, r < 8 → (Fa r).toInt = ((Fa r).toInt.toNat : Int) ∧ (Fa r).toInt.toNat < 256 := by
    intro r hr
    obtain ⟨v0, k1, k2⟩ := hfa r hr
    have k1 : some _ = some v0 := k1
    cases k1
    obtain ⟨x, hx, h8, h9⟩ := k2
    cases hx
    have h8 : (0 : Int) ≤ (Fa r).toInt := h8
    have h9 : (Fa r).toInt ≤ (255 : Int) := h9
    omega
  have hFm : ∀ r, r < 8 → (Fm r).toInt ≤ 1000 := by
    intro r hr
    obtain ⟨v0, k1, k2⟩ := hfm r hr
    have k1 : some _ = some v0 := k1
    cases k1
    obtain ⟨x, hx, h8, h9⟩ := k2
    cases hx
    exact h9
  obtain ⟨vs, hob, hfN, hfM, hfMost, hfWidth, hfRode, hfMay, hfMust, hfLeast, hfLine⟩ := id hO
  refine lv_aload_n C.1 C.2.1 (zda zDX8_smoothest 10 rfl rfl) rfl (lv_at hlv 0 rfl) ?_
  refine lv_iconst C.1 C.2.1 (zda zDX8_smoothest 11 rfl rfl) rfl ?_
  refine zv_callV C zXX_ok zTs_good (zu_solve (o := o) E hO hw hma hmo hN (by omega) hnt (by omega) hM (xw := Int32.ofInt 2) (by decide) hFa z116) rfl rfl (by show 30 + 1 ≤ 250; decide) (by show 8 + (8 + 11) + 5000 ≤ 30000; decide) (ci := 8) (show vwCl[8]? = some (RX8, TX8, 51) from rfl) zw1568 zw1565 zw1567 zs130 zw16 (n := 1) (by decide +kernel) (zda zDX8_smoothest 12 rfl rfl) rfl hob hw hP hD hS hlv.1 (by decide) (Nat.zero_le _) (Nat.zero_le _) (fun v9 ws1 H1 locs1 hc1 hw1 hP1 hD1 hS1 hq1 => ?_)
  obtain ⟨x, rfl, hx9, hx⟩ := hq1
  have hc1 : zcg zmL ws ws1 := hc1
  have hO1 := zOb_cg hc1 (fun j hj => zmL_b 94 j (by decide) (by omega)) hO
  have hma1 := zAr_cg hc1 hma (zmL_b 111 0 (by decide) (by decide))
  have hmo1 := zAr_cg hc1 hmo (zmL_b 96 0 (by decide) (by decide))
  have z941 : zad ws1 94 = some aM := by
    obtain ⟨vs1, hob1, -⟩ := id hO1
    exact zad_of hob1
  refine lv_ldc C.1 C.2.1 C.2.2.2.1 (C.2.2.2.2.1 _ zw1171) (zda zDX8_smoothest 15 rfl rfl) ?_
  refine lv_icmp_ne C.1 C.2.1 (zda zDX8_smoothest 17 rfl rfl) (tgt := 23) (by decide) (fun h17 => ?_) (fun h17 => ?_)
  · have hlt : x.toInt < 1000000000 := by
      rcases Int.lt_or_le x.toInt 1000000000 with h | h
      · exact h
      · exfalso
        apply h17
        apply Int32.toInt_inj.mp
        rw [zfar]
        omega
    obtain ⟨σ, hσ⟩ := zFs_of hn8 (hx hlt)
    obtain ⟨a3, Fr, hro, h3, -⟩ := zAr_of hw1 (n := 8) zu_rode (show 108 < 126 by decide)
    have e3 : a3 = aRode := by
      have h9 := zcg_sub hc1 108 _ z108
      rw [h9] at h3
      exact (Option.some.inj h3).symm
    subst e3
    refine lv_iconst C.1 C.2.1 (zda zDX8_smoothest 23 rfl rfl) rfl ?_
    refine lv_istore_n C.1 C.2.1 (zda zDX8_smoothest 24 rfl rfl) rfl hlv (lv' := [(1, _), (0, .ref aM)]) (by decide) rfl (fun ls hlv => ?_)
    refine zsmR C (fun xv Fr ws2 H locs ls hF hv hlv => ?_) 9 0 _ Fr ws1 H1 locs1 ls (by omega) (by omega) (by decide) (fun i hi => absurd hi (Nat.not_lt_zero i)) ⟨⟨hw1.1, hw1.2⟩, hP1, hD1, hS1, hO1, hma1, hmo1, hro, zcg_rf⟩ hlv
    refine lv_iconst C.1 C.2.1 (zda zDX8_smoothest 44 rfl rfl) rfl ?_
    refine lv_istore_n C.1 C.2.1 (zda zDX8_smoothest 45 rfl rfl) rfl hlv (lv' := [(1, _), (0, .ref aM)]) (by decide) rfl (fun ls hlv => ?_)
    refine zsmV E C hn8 hN (by omega) hM hFa hFm (zFs_ext (fun r hr => ?_) hσ) (fun xv ws3 H locs ls hv hlv => ?_) 16001 0 _ ws2 H locs ls (by omega) (by omega) (by decide) hv hlv
    · show (Fr r).toInt = 0
      rw [hF r (by omega)]
      decide
    · obtain ⟨f1, f2, f3, f4, f5, f6, f7, f8, f9⟩ := hv
      refine K61 xv ws3 H locs ls (zcg_tr hc1 f9) f1 f2 f3 f4 ?_ hlv
      obtain ⟨vs3, hob3, -⟩ := f5
      exact zad_of hob3
  · exact K20 ws1 H1 locs1 ls (zsm_ok zmX_1 hc1) ⟨hw1.1, hw1.2⟩ hP1 hD1 hS1 z941 hlv
end ZSMO
