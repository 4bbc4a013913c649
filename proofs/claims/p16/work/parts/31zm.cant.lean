/-! night() and canTake() with values -/
abbrev znt (N : Int32) : Int32 := (Int32.ofInt 1 <<< (N &&& 31)) - Int32.ofInt 1
theorem znt_ok {N : Int32} (h : zmi (.ofNat 1, .ofNat 8) N) : ∃ n : Nat, 1 ≤ n ∧ n ≤ 8 ∧ N.toInt = (n : Int) ∧ (znt N).toInt = ((2 ^ n - 1 : Nat) : Int) := by
  obtain ⟨h1, h2⟩ := h
  have h1 : (1 : Int) ≤ N.toInt := h1
  have h2 : N.toInt ≤ (8 : Int) := h2
  have key : ∀ k : Nat, k < 9 → N.toInt = (k : Int) → N = Int32.ofNat k := fun k hk e => by
    apply Int32.toInt_inj.mp
    rw [e]
    exact (nI_toInt (by omega)).symm
  obtain ⟨k, hk⟩ : ∃ k : Nat, N.toInt = (k : Int) := ⟨N.toInt.toNat, by omega⟩
  have hN := key k (by omega) hk
  refine ⟨k, by omega, by omega, hk, ?_⟩
  subst hN
  have h9 := (by decide : ∀ k : Nat, k < 9 → 1 ≤ k → (znt (Int32.ofNat k)).toInt = ((2 ^ k - 1 : Nat) : Int))
  exact h9 k (by omega) (by omega)
theorem zb0 (k j : Nat) : zbit 0 k j = false := by unfold zbit; exact Nat.zero_testBit _
section ZNI
variable {p : Program} {l : Launch} {e : Env} {R : Room} {s : State} {m : MethodId} {args : Array Value} {below : List Frame} {meth : Method} {c0 : Code} {Q : State → Prop} {D : va_G} {tys : List (ClassId × FieldType)} {o : zO} {z : Nat}
theorem zu_night {ws : va_W} {aM : Nat} {N M : Int32} {aMost aWidth aRode aMay aMust aLeast aLine : Nat} (hO : zOb ws aM N M aMost aWidth aRode aMay aMust aLeast aLine) : zMetV l D vwCl tys o z (zXX o z) zTs mX8_night 5 1000 (zuW 0) (zuW 0) ws [.ref aM] (fun v _ => v = .int (znt N)) := by
  refine zMetV_of (mr := mX8_night) (by decide) (by decide) (by decide) (show 1 ≤ 1 by decide) rfl rfl (ty := .int) rfl ?_
  intro p e s m below meth c0 Q ls C hw hP hD hret hlv
  replace C : zCx p { frames := 5, cells := 0, slots := 0, locals := 1000 } s m ([.ref aM] : List Value).toArray meth c0 D vwCl tys z (zXX o z) zTs RX8 cX8_night 1 "night" := C
  have hlv : lv_has ls 1 [(0, .ref aM)] := hlv
  obtain ⟨vs, hob, hfN, hfM, hfMost, hfWidth, hfRode, hfMay, hfMust, hfLeast, hfLine⟩ :=  hO
  refine lv_iconst C.1 C.2.1 (zda zDX8_night 0 rfl rfl) rfl ?_
  refine lv_aload_n C.1 C.2.1 (zda zDX8_night 1 rfl rfl) rfl (lv_at hlv 0 rfl) ?_
  refine zv_get C (zda zDX8_night 2 rfl rfl) (k := 1) (show vwCl[8]? = some (RX8, TX8, 51) from rfl) zinX8 (by decide) zw1173 hP hob hfN ?_
  refine lv_ishl C.1 C.2.1 (zda zDX8_night 5 rfl rfl) ?_
  refine lv_iconst C.1 C.2.1 (zda zDX8_night 6 rfl rfl) rfl ?_
  refine lv_isub C.1 C.2.1 (zda zDX8_night 7 rfl rfl) ?_
  exact hret 8 ls _ _ [] ws rfl (zda zDX8_night 8 rfl rfl) zcg_rf hw hP hD va_S.rf rfl
noncomputable def zuct : zK := ([(0, .inr (.inr (.inl 94))), (1, .inl ((.ofNat 0, .ofNat 7), none)), (2, .inl ((.ofNat 0, .ofNat 255), none))], [], (126, zuw, 0), 0, 0)
set_option maxRecDepth 100000 in
theorem zuct_ok : zrunw zprog2 (zovW []) 1000 (zcutH [(39, zuct, []), (43, zuct, [])]) 20 3000 kX8_canTake (fun _ _ => false) 13 zuct = true := by decide +kernel
theorem zu_ct (E : zEnv tys) {ws : va_W} {aM : Nat} {N M : Int32} {aMost aWidth aRode aMay aMust aLeast aLine : Nat} (hO : zOb ws aM N M aMost aWidth aRode aMay aMust aLeast aLine) {F : Nat → Int32} (hmost : zAr tys ws 96 aMost 8 F) {r own : Nat} {xr xo : Int32} (hr : xr.toInt = (r : Int)) (hr8 : r < 8) (ho : xo.toInt = (own : Int)) (ho8 : own < 256) : zMetV l D vwCl tys o z (zXX o z) zTs mX8_canTake 20 3000 (zuW 0) (zuW 0) ws [.ref aM, .int xr, .int xo] (fun v _ => v = .int 0 ∨ (v = .int 1 ∧ (zpc own : Int) ≤ (F r).toInt)) := by
  refine zMetV_of (mr := mX8_canTake) (by decide) (by decide) (by decide) (show 3 ≤ 3 by decide) rfl rfl (ty := .boolean) rfl ?_
  intro p e s m below meth c0 Q ls C hw hP hD hret hlv
  replace C : zCx p { frames := 20, cells := 0, slots := 0, locals := 3000 } s m ([.ref aM, .int xr, .int xo] : List Value).toArray meth c0 D vwCl tys z (zXX o z) zTs RX8 cX8_canTake 3 "canTake" := C
  have hlv : lv_has ls 3 [(0, .ref aM), (1, .int xr), (2, .int xo)] := hlv
  refine lv_iload_n C.1 C.2.1 (zda zDX8_canTake 0 rfl rfl) rfl (lv_at hlv 2 rfl) ?_
  refine zv_callS C zXX_ok zTs_good (zu_bc (o := o) E ho8 ho) rfl rfl (by decide) (by decide) zw564 zw1439 zw563 zw21 (n := 1) (by decide +kernel) (zda zDX8_canTake 1 rfl rfl) rfl hw hP hD va_S.rf hlv.1 (by decide) (Nat.zero_le _) (Nat.zero_le _) (fun v ws1 H1 locs1 hc1 hw1 hP hD1 hS1 hq => ?_)
  obtain ⟨y, rfl, hy⟩ := hq
  have hO1 := zOb_cg hc1 (fun j _ => zb0 94 j) hO
  have hm1 := zAr_cg hc1 hmost (zb0 96 0)
  obtain ⟨vs, hob, hfN, hfM, hfMost, hfWidth, hfRode, hfMay, hfMust, hfLeast, hfLine⟩ :=  hO1
  refine lv_aload_n C.1 C.2.1 (zda zDX8_canTake 4 rfl rfl) rfl (lv_at hlv 0 rfl) ?_
  refine zv_get C (zda zDX8_canTake 5 rfl rfl) (k := 4) (show vwCl[8]? = some (RX8, TX8, 51) from rfl) zinX8 (by decide) zw1176 hP hob hfMost ?_
  refine lv_iload_n C.1 C.2.1 (zda zDX8_canTake 8 rfl rfl) rfl (lv_at hlv 1 rfl) ?_
  refine zv_iald C (zda zDX8_canTake 9 rfl rfl) hP hm1 hr hr8 ?_
  refine lv_icmp_gt C.1 C.2.1 (zda zDX8_canTake 10 rfl rfl) (tgt := 43) (by decide) (fun h10 => ?_) (fun h10 => ?_)
  · refine lv_iconst C.1 C.2.1 (zda zDX8_canTake 43 rfl rfl) rfl ?_
    exact hret 44 ls _ H1 locs1 ws1 rfl (zda zDX8_canTake 44 rfl rfl) hc1 hw1 hP hD1 hS1 (Or.inl rfl)
  · rw [Int32.lt_iff_toInt_lt] at h10
    have S1 : zSat D vwCl tys o z ws1 3 s.heap zuct ls [] H1 locs1 ws1 := ⟨⟨_, hlv, ⟨rfl, ⟨aM, zad_of hob, rfl⟩⟩, ⟨rfl, ⟨xr, rfl, ⟨by show (0 : Int) ≤ xr.toInt; omega, by show xr.toInt ≤ (7 : Int); omega⟩, trivial⟩⟩, ⟨rfl, ⟨xo, rfl, ⟨by show (0 : Int) ≤ xo.toInt; omega, by show xo.toInt ≤ (255 : Int); omega⟩, trivial⟩⟩, trivial⟩, trivial, hw1, hP, hD1, hS1, zcg_rf⟩
    refine zstretch (zovW_ok (fun d h => absurd h List.not_mem_nil)) zXX_ok (zprog2_ok E) (by decide) (by decide) (zc2 (okX8_canTake (o := o) E) p e _ s m _ below meth c0 Q ws1 rfl rfl C) zuct_ok S1 ?_
    intro q hq ls2 H2 locs2 ws2 S2 _
    simp only [List.mem_cons, List.not_mem_nil, or_false] at hq
    rcases hq with rfl | rfl
    · refine lv_iconst C.1 C.2.1 (zda zDX8_canTake 39 rfl rfl) rfl ?_
      refine lv_goto C.1 C.2.1 (zda zDX8_canTake 40 rfl rfl) (tgt := 44) (by decide) ?_
      exact hret 44 ls2 _ H2 locs2 ws2 rfl (zda zDX8_canTake 44 rfl rfl) (zcg_tr hc1 S2.2.2.2.2.2.2) ⟨S2.2.2.1.1, S2.2.2.1.2⟩ S2.2.2.2.1 S2.2.2.2.2.1 S2.2.2.2.2.2.1 (Or.inr ⟨rfl, by omega⟩)
    · refine lv_iconst C.1 C.2.1 (zda zDX8_canTake 43 rfl rfl) rfl ?_
      exact hret 44 ls2 _ H2 locs2 ws2 rfl (zda zDX8_canTake 44 rfl rfl) (zcg_tr hc1 S2.2.2.2.2.2.2) ⟨S2.2.2.1.1, S2.2.2.1.2⟩ S2.2.2.2.1 S2.2.2.2.2.1 S2.2.2.2.2.2.1 (Or.inl rfl)
end ZNI
