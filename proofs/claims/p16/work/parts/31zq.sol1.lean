theorem zinc1 {x : Int32} {a : Nat} (hx : x.toInt = (a : Int)) (ha : a < 1000) : (x + Int32.ofInt 1).toInt = ((a + 1 : Nat) : Int) := by
  rw [Int32.toInt_add, show (Int32.ofInt 1).toInt = 1 by decide, hx, zbm (B := 2147483648) (by decide) (by omega) (by omega)]
  omega
theorem zfar : (Int32.ofInt (Int.ofNat 1000000000)).toInt = 1000000000 := by decide
section ZSOLN
variable {p : Program} {l : Launch} {e : Env} {s : State} {m : MethodId} {args : Array Value} {below : List Frame} {meth : Method} {c0 : Code} {Q : State → Prop} {D : va_G} {tys : List (ClassId × FieldType)} {o : zO} {z : Nat}
variable {aM : Nat} {N M : Int32} {aMost aWidth aRode aMay aMust aLeast aLine : Nat} {Fa Fm : Nat → Int32} {ws0 : va_W}
set_option maxHeartbeats 2000000 in
theorem zsL3 (C : zCx p zSvR s m args meth c0 D vwCl tys z (zXX o z) zTs RX8 cX8_solve 8 "solve") {nN Mn : Nat} {xw : Int32} (hN : N.toInt = (nN : Int)) (hn : nN < 9) (hnt : (znt N).toInt = ((2 ^ nN - 1 : Nat) : Int)) (hMn : Mn ≤ 8) {r : Nat} {xr : Int32} (hr : xr.toInt = (r : Int)) (hrM : r < Mn) (K80 : ∀ (F : Nat → Int32) (ws : va_W) (H : Heap) (locs : List Loc) (ls : Array Slot), zSv D tys o z s aM N M aMost aWidth aRode aMay aMust aLeast aLine Fa Fm ws0 F ws H locs → zGd (fun q => (Fa q).toInt.toNat) (fun q => (Fm q).toInt) Mn (2 ^ nN - 1) r F → lv_has ls 8 [(2, .int xr), (0, .ref aM), (1, .int xw)] → W p l e zSvR s m args below meth c0 H locs 0 0 Q (F0 m 80 ls [])) : ∀ (k t : Nat) (xt : Int32) (F : Nat → Int32) (ws : va_W) (H : Heap) (locs : List Loc) (ls : Array Slot), 2 ^ nN - t < k → t ≤ 2 ^ nN → xt.toInt = (t : Int) → zSv D tys o z s aM N M aMost aWidth aRode aMay aMust aLeast aLine Fa Fm ws0 F ws H locs → zGd (fun q => (Fa q).toInt.toNat) (fun q => (Fm q).toInt) Mn (2 ^ nN - 1) (r + 1) F → (∀ u, u < t → (F (256 * r + u)).toInt = 1000000000) → lv_has ls 8 [(3, .int xt), (2, .int xr), (0, .ref aM), (1, .int xw)] → W p l e zSvR s m args below meth c0 H locs 0 0 Q (F0 m 53 ls []) := by
  intro k
  induction k with
  | zero => intro t xt F ws H locs ls h; omega
  | succ k ih =>
    intro t xt F ws H locs ls hk htl hxt hv hg hF hlv
    have hp9 : 2 ^ nN ≤ 256 := by
      have := Nat.pow_le_pow_right (n := 2) (by omega) (show nN ≤ 8 by omega)
      omega
    have hp1 : 1 ≤ 2 ^ nN := Nat.one_le_two_pow
    obtain ⟨hw, hP, hD, hS, hO, hma, hmo, hle, hcg, hFb⟩ := id hv
    obtain ⟨vs, hob, hfN, hfM, hfMost, hfWidth, hfRode, hfMay, hfMust, hfLeast, hfLine⟩ := id hO
    refine lv_iload_n C.1 C.2.1 (zda zDX8_solve 53 rfl rfl) rfl (lv_at hlv 0 rfl) ?_
    refine lv_aload_n C.1 C.2.1 (zda zDX8_solve 54 rfl rfl) rfl (lv_at hlv 2 rfl) ?_
    refine zv_callV C zXX_ok zTs_good (zu_night hO) rfl rfl (by decide) (by decide) (ci := 8) (show vwCl[8]? = some (RX8, TX8, 51) from rfl) zw1564 zw1561 zw1563 zs129 zw16 (n := 0) (by decide +kernel) (zda zDX8_solve 55 rfl rfl) rfl hob hw hP hD hS hlv.1 (by show 1 ≤ 8; decide) (Nat.zero_le _) (Nat.zero_le _) (fun v ws H locs hc hw hP hD hS hq => ?_)
    have hv := zSv_call hv hc hw hP hD hS
    subst hq
    refine lv_icmp_gt C.1 C.2.1 (zda zDX8_solve 58 rfl rfl) (tgt := 80) (by decide) (fun h58 => ?_) (fun h58 => ?_)
    · rw [Int32.lt_iff_toInt_lt, hnt, hxt] at h58
      refine K80 F ws H locs ls hv (fun q u h1 h2 h3 h4 => ?_) (lv_sub hlv [1, 2, 3] rfl)
      rcases Nat.lt_or_ge r q with h5 | h5
      · exact hg q u h5 h2 h3 h4
      · have e1 : q = r := by omega
        subst e1
        have := hF u (by omega)
        omega
    · rw [Int32.lt_iff_toInt_lt, hnt, hxt] at h58
      clear hob hw hP hD hS hO hma hmo hle hcg hFb
      obtain ⟨hw, hP, hD, hS, hO, hma, hmo, hle, hcg, hFb⟩ := id hv
      obtain ⟨vs, hob, hfN, hfM, hfMost, hfWidth, hfRode, hfMay, hfMust, hfLeast, hfLine⟩ := id hO
      refine lv_aload_n C.1 C.2.1 (zda zDX8_solve 61 rfl rfl) rfl (lv_at hlv 2 rfl) ?_
      refine zv_get C (zda zDX8_solve 62 rfl rfl) (k := 37) (show vwCl[8]? = some (RX8, TX8, 51) from rfl) zinX8 (by decide) zw1209 hP hob hfLeast ?_
      refine lv_iload_n C.1 C.2.1 (zda zDX8_solve 65 rfl rfl) rfl (lv_at hlv 1 rfl) ?_
      refine lv_bipush C.1 C.2.1 (zda zDX8_solve 66 rfl rfl) rfl ?_
      refine lv_ishl C.1 C.2.1 (zda zDX8_solve 68 rfl rfl) ?_
      refine lv_iload_n C.1 C.2.1 (zda zDX8_solve 69 rfl rfl) rfl (lv_at hlv 0 rfl) ?_
      refine lv_ior C.1 C.2.1 (zda zDX8_solve 70 rfl rfl) ?_
      refine lv_ldc C.1 C.2.1 C.2.2.2.1 (C.2.2.2.2.1 _ zw1171) (zda zDX8_solve 71 rfl rfl) ?_
      refine zSv_store C (zda zDX8_solve 73 rfl rfl) hv (zidx hr (by omega) hxt (by omega)) (by omega) (by rw [zfar]; exact Int.le_refl _) (fun H locs ws hv' => ?_)
      refine lv_iinc C.1 C.2.1 (zda zDX8_solve 74 rfl rfl) hlv (k := 0) rfl rfl (by decide) (lv' := [(3, _), (2, .int xr), (0, .ref aM), (1, .int xw)]) rfl (fun ls hlv => ?_)
      refine lv_goto C.1 C.2.1 (zda zDX8_solve 77 rfl rfl) (tgt := 53) (by decide) ?_
      refine ih (t + 1) _ _ ws H locs ls (by omega) (by omega) (zinc1 hxt (by omega)) hv' (zGd_up hg (fun q u h1 h2 h3 h4 _ => by omega)) (fun u hu => ?_) hlv
      unfold upd
      split
      · exact zfar
      · exact hF u (by omega)
set_option maxHeartbeats 2000000 in
theorem zsL2 (E : zEnv tys) (C : zCx p zSvR s m args meth c0 D vwCl tys z (zXX o z) zTs RX8 cX8_solve 8 "solve") {nN Mn : Nat} {xw : Int32} (hN : N.toInt = (nN : Int)) (hn : nN < 9) (hnt : (znt N).toInt = ((2 ^ nN - 1 : Nat) : Int)) (hMn : Mn ≤ 8) (hxw : xw.toInt = ((2 : Nat) : Int)) (hFa : ∀ r, r < 8 → (Fa r).toInt = ((Fa r).toInt.toNat : Int) ∧ (Fa r).toInt.toNat < 256) (K239 : ∀ (F : Nat → Int32) (ws : va_W) (H : Heap) (locs : List Loc) (ls : Array Slot), zSv D tys o z s aM N M aMost aWidth aRode aMay aMust aLeast aLine Fa Fm ws0 F ws H locs → zGd (fun q => (Fa q).toInt.toNat) (fun q => (Fm q).toInt) Mn (2 ^ nN - 1) 0 F → lv_has ls 8 [(0, .ref aM), (1, .int xw)] → W p l e zSvR s m args below meth c0 H locs 0 0 Q (F0 m 239 ls [])) : ∀ (k : Nat) (xr : Int32) (F : Nat → Int32) (ws : va_W) (H : Heap) (locs : List Loc) (ls : Array Slot), k ≤ Mn → xr.toInt = (k : Int) - 1 → zSv D tys o z s aM N M aMost aWidth aRode aMay aMust aLeast aLine Fa Fm ws0 F ws H locs → zGd (fun q => (Fa q).toInt.toNat) (fun q => (Fm q).toInt) Mn (2 ^ nN - 1) k F → lv_has ls 8 [(2, .int xr), (0, .ref aM), (1, .int xw)] → W p l e zSvR s m args below meth c0 H locs 0 0 Q (F0 m 47 ls []) := by
  intro k
  induction k with
  | zero =>
    intro xr F ws H locs ls hk hxr hv hg hlv
    refine lv_iload_n C.1 C.2.1 (zda zDX8_solve 47 rfl rfl) rfl (lv_at hlv 0 rfl) ?_
    refine lv_if_lt C.1 C.2.1 (zda zDX8_solve 48 rfl rfl) (tgt := 239) (by decide) (fun h48 => ?_) (fun h48 => ?_)
    · exact K239 F ws H locs ls hv hg (lv_sub hlv [1, 2] rfl)
    · exfalso
      apply h48
      rw [Int32.lt_iff_toInt_lt, hxr, Int32.toInt_zero]
      omega
  | succ k ih =>
    intro xr F ws H locs ls hk hxr hv hg hlv
    have hxr : xr.toInt = (k : Int) := by omega
    refine lv_iload_n C.1 C.2.1 (zda zDX8_solve 47 rfl rfl) rfl (lv_at hlv 0 rfl) ?_
    refine lv_if_lt C.1 C.2.1 (zda zDX8_solve 48 rfl rfl) (tgt := 239) (by decide) (fun h48 => ?_) (fun h48 => ?_)
    · exact (zlt0 hxr h48).elim
    · refine lv_iconst C.1 C.2.1 (zda zDX8_solve 51 rfl rfl) rfl ?_
      refine lv_istore_n C.1 C.2.1 (zda zDX8_solve 52 rfl rfl) rfl hlv (lv' := [(3, _), (2, .int xr), (0, .ref aM), (1, .int xw)]) (by decide) rfl (fun ls hlv => ?_)
      refine zsL3 C hN hn hnt hMn hxr (by omega) (fun F ws H locs ls hv hg hlv => ?_) (2 ^ nN + 1) 0 _ F ws H locs ls (Nat.lt_succ_of_le (Nat.sub_le _ _)) (Nat.zero_le _) rfl hv hg (fun u hu => absurd hu (Nat.not_lt_zero u)) hlv
      obtain ⟨hw, hP, hD, hS, hO, hma, hmo, hle, hcg, hFb⟩ := id hv
      obtain ⟨vs, hob, hfN, hfM, hfMost, hfWidth, hfRode, hfMay, hfMust, hfLeast, hfLine⟩ := id hO
      refine lv_aload_n C.1 C.2.1 (zda zDX8_solve 80 rfl rfl) rfl (lv_at hlv 1 rfl) ?_
      refine zv_get C (zda zDX8_solve 81 rfl rfl) (k := 32) (show vwCl[8]? = some (RX8, TX8, 51) from rfl) zinX8 (by decide) zw1204 hP hob hfMay ?_
      refine lv_iload_n C.1 C.2.1 (zda zDX8_solve 84 rfl rfl) rfl (lv_at hlv 0 rfl) ?_
      refine zv_iald C (zda zDX8_solve 85 rfl rfl) hP hma hxr (by omega) ?_
      refine lv_istore_n C.1 C.2.1 (zda zDX8_solve 86 rfl rfl) rfl hlv (lv' := [(3, _), (2, .int xr), (0, .ref aM), (1, .int xw)]) (by decide) rfl (fun ls hlv => ?_)
      refine zsL4 E C hN hn hMn hxw hxr (by omega) (hFa k (by omega)) (fun F ws H locs ls hv hg hlv => ?_) 256 _ _ F ws H locs ls (hFa k (by omega)).2 (hFa k (by omega)).2 (hFa k (by omega)).1 (Nat.and_self _) hv hg hlv
      refine lv_iinc C.1 C.2.1 (zda zDX8_solve 233 rfl rfl) hlv (k := 0) rfl rfl (by decide) (lv' := [(2, _), (0, .ref aM), (1, .int xw)]) rfl (fun ls hlv => ?_)
      refine lv_goto C.1 C.2.1 (zda zDX8_solve 236 rfl rfl) (tgt := 47) (by decide) ?_
      refine ih _ F ws H locs ls (by omega) ?_ hv hg hlv
      rw [Int32.toInt_add, show (Int32.ofInt (-1)).toInt = -1 by decide, hxr, zbm (B := 2147483648) (by decide) (by omega) (by omega)]
      omega
set_option maxHeartbeats 2000000 in
theorem zsL1 (C : zCx p zSvR s m args meth c0 D vwCl tys z (zXX o z) zTs RX8 cX8_solve 8 "solve") {nN Mn : Nat} {xw : Int32} (hN : N.toInt = (nN : Int)) (hn : nN < 9) (hnt : (znt N).toInt = ((2 ^ nN - 1 : Nat) : Int)) (hMn : Mn ≤ 8) (hM : M.toInt = (Mn : Int)) (K47 : ∀ (xr : Int32) (F : Nat → Int32) (ws : va_W) (H : Heap) (locs : List Loc) (ls : Array Slot), xr.toInt = (Mn : Int) - 1 → zSv D tys o z s aM N M aMost aWidth aRode aMay aMust aLeast aLine Fa Fm ws0 F ws H locs → zGd (fun q => (Fa q).toInt.toNat) (fun q => (Fm q).toInt) Mn (2 ^ nN - 1) Mn F → lv_has ls 8 [(2, .int xr), (0, .ref aM), (1, .int xw)] → W p l e zSvR s m args below meth c0 H locs 0 0 Q (F0 m 47 ls [])) : ∀ (k t : Nat) (xt : Int32) (F : Nat → Int32) (ws : va_W) (H : Heap) (locs : List Loc) (ls : Array Slot), 2 ^ nN - t < k → t ≤ 2 ^ nN → xt.toInt = (t : Int) → zSv D tys o z s aM N M aMost aWidth aRode aMay aMust aLeast aLine Fa Fm ws0 F ws H locs → (∀ u, u < t → (F (256 * Mn + u)).toInt < 1000000000 → u = 0) → lv_has ls 8 [(2, .int xt), (0, .ref aM), (1, .int xw)] → W p l e zSvR s m args below meth c0 H locs 0 0 Q (F0 m 2 ls []) := by
  intro k
  induction k with
  | zero => intro t xt F ws H locs ls h; omega
  | succ k ih =>
    intro t xt F ws H locs ls hk htl hxt hv hF hlv
    have hp9 : 2 ^ nN ≤ 256 := by
      have := Nat.pow_le_pow_right (n := 2) (by omega) (show nN ≤ 8 by omega)
      omega
    have hp1 : 1 ≤ 2 ^ nN := Nat.one_le_two_pow
    have back : ∀ (F : Nat → Int32) (ws : va_W) (H : Heap) (locs : List Loc), t < 2 ^ nN → zSv D tys o z s aM N M aMost aWidth aRode aMay aMust aLeast aLine Fa Fm ws0 F ws H locs → (∀ u, u < t + 1 → (F (256 * Mn + u)).toInt < 1000000000 → u = 0) → W p l e zSvR s m args below meth c0 H locs 0 0 Q (F0 m 34 ls []) := by
      intro F ws H locs hlt hv hF
      refine lv_iinc C.1 C.2.1 (zda zDX8_solve 34 rfl rfl) hlv (k := 0) rfl rfl (by decide) (lv' := [(2, _), (0, .ref aM), (1, .int xw)]) rfl (fun ls hlv => ?_)
      refine lv_goto C.1 C.2.1 (zda zDX8_solve 37 rfl rfl) (tgt := 2) (by decide) ?_
      exact ih (t + 1) _ F ws H locs ls (by omega) (by omega) (zinc1 hxt (by omega)) hv hF hlv
    obtain ⟨hw, hP, hD, hS, hO, hma, hmo, hle, hcg, hFb⟩ := id hv
    obtain ⟨vs, hob, hfN, hfM, hfMost, hfWidth, hfRode, hfMay, hfMust, hfLeast, hfLine⟩ := id hO
    refine lv_iload_n C.1 C.2.1 (zda zDX8_solve 2 rfl rfl) rfl (lv_at hlv 0 rfl) ?_
    refine lv_aload_n C.1 C.2.1 (zda zDX8_solve 3 rfl rfl) rfl (lv_at hlv 1 rfl) ?_
    refine zv_callV C zXX_ok zTs_good (zu_night hO) rfl rfl (by decide) (by decide) (ci := 8) (show vwCl[8]? = some (RX8, TX8, 51) from rfl) zw1564 zw1561 zw1563 zs129 zw16 (n := 0) (by decide +kernel) (zda zDX8_solve 4 rfl rfl) rfl hob hw hP hD hS hlv.1 (by show 1 ≤ 8; decide) (Nat.zero_le _) (Nat.zero_le _) (fun v ws H locs hc hw hP hD hS hq => ?_)
    have hv := zSv_call hv hc hw hP hD hS
    subst hq
    clear hob hw hP hD hS hO hma hmo hle hcg hFb
    obtain ⟨hw, hP, hD, hS, hO, hma, hmo, hle, hcg, hFb⟩ := id hv
    obtain ⟨vs, hob, hfN, hfM, hfMost, hfWidth, hfRode, hfMay, hfMust, hfLeast, hfLine⟩ := id hO
    refine lv_icmp_gt C.1 C.2.1 (zda zDX8_solve 7 rfl rfl) (tgt := 40) (by decide) (fun h7 => ?_) (fun h7 => ?_)
    · rw [Int32.lt_iff_toInt_lt, hnt, hxt] at h7
      refine lv_aload_n C.1 C.2.1 (zda zDX8_solve 40 rfl rfl) rfl (lv_at hlv 1 rfl) ?_
      refine zv_get C (zda zDX8_solve 41 rfl rfl) (k := 3) (show vwCl[8]? = some (RX8, TX8, 51) from rfl) zinX8 (by decide) zw1175 hP hob hfM ?_
      refine lv_iconst C.1 C.2.1 (zda zDX8_solve 44 rfl rfl) rfl ?_
      refine lv_isub C.1 C.2.1 (zda zDX8_solve 45 rfl rfl) ?_
      refine lv_istore_n C.1 C.2.1 (zda zDX8_solve 46 rfl rfl) rfl hlv (lv' := [(2, _), (0, .ref aM), (1, .int xw)]) (by decide) rfl (fun ls hlv => ?_)
      refine K47 _ F ws H locs ls ?_ hv (fun q u h1 h2 h3 h4 => ?_) hlv
      · rw [Int32.toInt_sub, show (Int32.ofInt 1).toInt = 1 by decide, hM, zbm (B := 2147483648) (by decide) (by omega) (by omega)]
      · have e1 : q = Mn := by omega
        subst e1
        rw [Nat.sub_self]
        exact hF u (by omega) h4
    · rw [Int32.lt_iff_toInt_lt, hnt, hxt] at h7
      refine lv_aload_n C.1 C.2.1 (zda zDX8_solve 10 rfl rfl) rfl (lv_at hlv 1 rfl) ?_
      refine zv_get C (zda zDX8_solve 11 rfl rfl) (k := 37) (show vwCl[8]? = some (RX8, TX8, 51) from rfl) zinX8 (by decide) zw1209 hP hob hfLeast ?_
      refine lv_aload_n C.1 C.2.1 (zda zDX8_solve 14 rfl rfl) rfl (lv_at hlv 1 rfl) ?_
      refine zv_get C (zda zDX8_solve 15 rfl rfl) (k := 3) (show vwCl[8]? = some (RX8, TX8, 51) from rfl) zinX8 (by decide) zw1175 hP hob hfM ?_
      refine lv_bipush C.1 C.2.1 (zda zDX8_solve 18 rfl rfl) rfl ?_
      refine lv_ishl C.1 C.2.1 (zda zDX8_solve 20 rfl rfl) ?_
      refine lv_iload_n C.1 C.2.1 (zda zDX8_solve 21 rfl rfl) rfl (lv_at hlv 0 rfl) ?_
      refine lv_ior C.1 C.2.1 (zda zDX8_solve 22 rfl rfl) ?_
      refine lv_iload_n C.1 C.2.1 (zda zDX8_solve 23 rfl rfl) rfl (lv_at hlv 0 rfl) ?_
      refine lv_if_ne C.1 C.2.1 (zda zDX8_solve 24 rfl rfl) (tgt := 31) (by decide) (fun h24 => ?_) (fun h24 => ?_)
      · refine lv_ldc C.1 C.2.1 C.2.2.2.1 (C.2.2.2.2.1 _ zw1171) (zda zDX8_solve 31 rfl rfl) ?_
        refine zSv_store C (zda zDX8_solve 33 rfl rfl) hv (zidx hM (by omega) hxt (by omega)) (by omega) (by rw [zfar]; exact Int.le_refl _) (fun H locs ws hv' => back _ ws H locs (by omega) hv' (fun u hu h9 => ?_))
        unfold upd at h9
        split at h9
        · rw [zfar] at h9
          omega
        · exact hF u (by omega) h9
      · refine lv_iconst C.1 C.2.1 (zda zDX8_solve 27 rfl rfl) rfl ?_
        refine lv_goto C.1 C.2.1 (zda zDX8_solve 28 rfl rfl) (tgt := 33) (by decide) ?_
        refine zSv_store C (zda zDX8_solve 33 rfl rfl) hv (zidx hM (by omega) hxt (by omega)) (by omega) (by decide) (fun H locs ws hv' => back _ ws H locs (by omega) hv' (fun u hu h9 => ?_))
        have ht0 : t = 0 := by
          have h8 : xt.toInt = 0 := by rw [h24]; rfl
          omega
        omega
set_option maxHeartbeats 2000000 in
theorem zu_solve (E : zEnv tys) {ws : va_W} (hO : zOb ws aM N M aMost aWidth aRode aMay aMust aLeast aLine) (hw0 : zwr vwCl tys o (zuW 0) ws) (hma : zAr tys ws 111 aMay 8 Fa) (hmo : zAr tys ws 96 aMost 8 Fm) {nN Mn : Nat} {xw : Int32} (hN : N.toInt = (nN : Int)) (hn : nN < 9) (hnt : (znt N).toInt = ((2 ^ nN - 1 : Nat) : Int)) (hMn : Mn ≤ 8) (hM : M.toInt = (Mn : Int)) (hxw : xw.toInt = ((2 : Nat) : Int)) (hFa : ∀ r, r < 8 → (Fa r).toInt = ((Fa r).toInt.toNat : Int) ∧ (Fa r).toInt.toNat < 256) (haL : zad ws 116 = some aLeast) : zMetV l D vwCl tys o z (zXX o z) zTs m2X8_solve 30 5000 (zuW 0) (zuW zmL) ws [.ref aM, .int xw] (fun v _ => ∃ x : Int32, v = .int x ∧ x.toInt ≤ 1000000000 ∧ (x.toInt < 1000000000 → zAs (fun q => (Fa q).toInt.toNat) (fun q => (Fm q).toInt) Mn 0 (2 ^ nN - 1))) := by
  refine zMetV_of (mr := m2X8_solve) (by decide) (by decide) (by decide) (show 2 ≤ 8 by decide) rfl rfl (ty := .int) rfl ?_
  intro p e s m below meth c0 Q ls C hw hP hD hret hlv
  replace C : zCx p zSvR s m ([.ref aM, .int xw] : List Value).toArray meth c0 D vwCl tys z (zXX o z) zTs RX8 cX8_solve 8 "solve" := C
  have hlv : lv_has ls 8 [(0, .ref aM), (1, .int xw)] := hlv
  obtain ⟨a, F, hle, ha, hfb⟩ := zAr_of hw (n := 2304) zu_least (show 116 < 126 by decide)
  rw [haL] at ha
  cases ha
  have hv : zSv D tys o z s aM N M aMost aWidth aRode aMay aMust aLeast aLine Fa Fm ws F ws s.heap [] := ⟨hw, hP, hD, va_S.rf, hO, hma, hmo, hle, zcg_rf, fun i hi => by
    obtain ⟨v0, k1, k2⟩ := hfb i hi
    have k1 : some _ = some v0 := k1
    cases k1
    obtain ⟨x, hx, -, h9⟩ := k2
    cases hx
    exact h9⟩
  refine lv_iconst C.1 C.2.1 (zda zDX8_solve 0 rfl rfl) rfl ?_
  refine lv_istore_n C.1 C.2.1 (zda zDX8_solve 1 rfl rfl) rfl hlv (lv' := [(2, _), (0, .ref aM), (1, .int xw)]) (by decide) rfl (fun ls hlv => ?_)
  refine zsL1 C hN hn hnt hMn hM (fun xr F ws' H locs ls hxr hv hg hlv => ?_) (2 ^ nN + 1) 0 _ F ws s.heap [] ls (Nat.lt_succ_of_le (Nat.sub_le _ _)) (Nat.zero_le _) rfl hv (fun u hu => absurd hu (Nat.not_lt_zero u)) hlv
  refine zsL2 E C hN hn hnt hMn hxw hFa (fun F ws' H locs ls hv hg hlv => ?_) Mn xr F ws' H locs ls (Nat.le_refl _) hxr hv hg hlv
  clear hP hD hw hO hma hmo hle
  obtain ⟨hw, hP, hD, hS, hO, hma, hmo, hle, hcg, hFb⟩ := id hv
  obtain ⟨vs, hob, hfN, hfM, hfMost, hfWidth, hfRode, hfMay, hfMust, hfLeast, hfLine⟩ := id hO
  refine lv_aload_n C.1 C.2.1 (zda zDX8_solve 239 rfl rfl) rfl (lv_at hlv 0 rfl) ?_
  refine zv_get C (zda zDX8_solve 240 rfl rfl) (k := 37) (show vwCl[8]? = some (RX8, TX8, 51) from rfl) zinX8 (by decide) zw1209 hP hob hfLeast ?_
  refine lv_aload_n C.1 C.2.1 (zda zDX8_solve 243 rfl rfl) rfl (lv_at hlv 0 rfl) ?_
  refine zv_callV C zXX_ok zTs_good (zu_night hO) rfl rfl (by decide) (by decide) (ci := 8) (show vwCl[8]? = some (RX8, TX8, 51) from rfl) zw1564 zw1561 zw1563 zs129 zw16 (n := 0) (by decide +kernel) (zda zDX8_solve 244 rfl rfl) rfl hob hw hP hD hS hlv.1 (by show 1 ≤ 8; decide) (Nat.zero_le _) (Nat.zero_le _) (fun v ws H locs hc hw hP hD hS hq => ?_)
  have hv := zSv_call hv hc hw hP hD hS
  subst hq
  clear hob hw hP hD hS hO hma hmo hle hcg hFb
  obtain ⟨hw, hP, hD, hS, hO, hma, hmo, hle, hcg, hFb⟩ := id hv
  obtain ⟨vs, hob, hfN, hfM, hfMost, hfWidth, hfRode, hfMay, hfMust, hfLeast, hfLine⟩ := id hO
  have hp9 : 2 ^ nN ≤ 256 := by
    have := Nat.pow_le_pow_right (n := 2) (by omega) (show nN ≤ 8 by omega)
    omega
  have hp1 : 1 ≤ 2 ^ nN := Nat.one_le_two_pow
  refine zv_iald C (zda zDX8_solve 247 rfl rfl) hP hle hnt (by omega) ?_
  refine hret 248 ls _ H locs _ rfl (zda zDX8_solve 248 rfl rfl) hcg ⟨hw.1, hw.2⟩ hP hD hS ⟨_, rfl, hFb _ (by omega), fun h9 => ?_⟩
  have := hg 0 (2 ^ nN - 1) (Nat.le_refl _) (Nat.zero_le _) (Nat.le_refl _) (by rw [Nat.mul_zero, Nat.zero_add]; exact h9)
  exact this
end ZSOLN
