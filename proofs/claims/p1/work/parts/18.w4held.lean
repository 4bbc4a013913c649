/-- the hours of a set of hours that isn't empty -/
noncomputable def kbit_ov : zOv := fun fr lo mi as h => match Nat.beq mi 14 with
  | false => none
  | true => match Nat.ble 51 fr && (Nat.ble 10020 lo && true) with
    | false => none
    | true => match as with
      | [.inl q] => (match zle 1 q.1.1 && zle q.1.2 255 with
        | true => some (some (.inl ((.ofNat 1, .ofNat 8), none)), h)
        | false => none)
      | _ => none
set_option maxRecDepth 100000 in
theorem kbit_t : ((List.range 256).all fun n => Nat.beq n 0 || zrunv zprog zov0 100 50 10000 kJ6_bitCount_0f7a4 (zrt0 [] (.inl ((.ofNat 1, .ofNat 8), none))) 0 (zargs 0 [.inl ((.ofNat n, .ofNat n), none)], [], zh0, 0, 0)) = true := by decide +kernel
theorem kbit_ok {l : Launch} {D : va_G} {tys : List (ClassId × FieldType)} {o : zO} {z : Nat} {f : Nat → Int32} (E : zEnv tys) : zOvOk l D vwCl tys (zwith o f) z (zXX o z) zTs zprog kbit_ov := by
  intro fr lo mi mr as h q k hm hq hk
  unfold kbit_ov at hq
  split at hq
  · cases hq
  · rename_i hb
    have e := Nat.eq_of_beq_eq_true hb
    subst e
    have hm : some mJ6_bitCount_0f7a4 = some mr := hm
    cases hm
    split at hq
    · cases hq
    · rename_i hcnt
      simp only [Bool.and_eq_true] at hcnt
      have a1 := Nat.le_of_ble_eq_true hcnt.1
      have a2 := Nat.le_of_ble_eq_true hcnt.2.1
      split at hq
      · rename_i x
        split at hq
        · rename_i hx
          cases hq
          simp only [Bool.and_eq_true, zle_iff] at hx
          refine ⟨50, 10000, a1, ?_, zMet_hf E (mi := 14) (mr := mJ6_bitCount_0f7a4) rfl (by decide) (by decide) (Nat.le_refl 1) rfl rfl hk zMok_nil (fun z' p e R s m args below meth c0 Q ws hbc hbs C => (zprog_ok (l := l) (D := D) (o := zwith o f) (z := z') E 14 mJ6_bitCount_0f7a4 rfl).2 p e R s m args below meth c0 Q ws hbc hbs C) ?_⟩
          · show 8 + (1 + 11) + 10000 ≤ lo
            omega
          · intro vs hvs
            obtain ⟨v, t, rfl, h1, h2⟩ := zr2_cons hvs
            have e := zr2_nil h2
            subst e
            obtain ⟨y, rfl, ⟨hy1, hy2⟩, -⟩ := h1
            obtain ⟨n, hn⟩ : ∃ n : Nat, y.toInt = (n : Int) := ⟨y.toInt.toNat, by omega⟩
            have hrun := List.all_eq_true.mp kbit_t n (List.mem_range.mpr (by omega))
            have hn0 : Nat.beq n 0 = false := by
              cases n with
              | zero => exfalso; omega
              | succ n => rfl
            rw [hn0, Bool.false_or] at hrun
            exact ⟨[.inl ((.ofNat n, .ofNat n), none)], 100, ⟨⟨y, rfl, ⟨by show (n : Int) ≤ _; omega, by show _ ≤ (n : Int); omega⟩, trivial⟩, trivial⟩, hrun⟩
        · cases hq
      · cases hq
noncomputable def kheld_hh : zH := (126, zrset (zrset (zHF.2) 64 (.inr (4, [.inr (.inr (.inl 65)), .inr (.inr (.inl 66)), .inr (.inr (.inl 67)), .inr (.inr (.inl 68)), .inr (.inr (.inl 69)), .inr (.inr (.inl 70)), .inr (.inr (.inl 71)), .inr (.inr (.inl 72)), .inr (.inr (.inl 73)), .inr (.inr (.inl 74)), .inr (.inr (.inl 75)), .inr (.inr (.inl 76)), .inr (.inr (.inl 77)), .inl ((.ofNat 255, .ofNat 255), none), .inr (.inl (.ofNat 1152921504606846975, .ofNat 1152921504606846975))]))) 67 (.inl (0, 8, (zrset (zrset (zrset (zrset (zrset (zrset (zrset (zrmk 8 (.inl ((.ofNat 0, .ofNat 0), none))) 1 (.inl ((.ofNat 1, .ofNat 1), none))) 2 (.inl ((.ofNat 2, .ofNat 2), none))) 3 (.inl ((.ofNat 3, .ofNat 3), none))) 4 (.inl ((.ofNat 4, .ofNat 4), none))) 5 (.inl ((.ofNat 5, .ofNat 5), none))) 6 (.inl ((.ofNat 6, .ofNat 6), none))) 7 (.inl ((.ofNat 7, .ofNat 7), none))))))
noncomputable def kheld_C : zK := ([(0, .inr (.inr (.inl 64))), (1, .inl ((.negSucc 2147483647, .ofNat 2147483647), some (5, .ofNat 0)))], [], (126, zrset (zrset (zrset (zHF.2) 64 (.inr (4, [.inr (.inr (.inl 65)), .inr (.inr (.inl 66)), .inr (.inr (.inl 67)), .inr (.inr (.inl 68)), .inr (.inr (.inl 69)), .inr (.inr (.inl 70)), .inr (.inr (.inl 71)), .inr (.inr (.inl 72)), .inr (.inr (.inl 73)), .inr (.inr (.inl 74)), .inr (.inr (.inl 75)), .inr (.inr (.inl 76)), .inr (.inr (.inl 77)), .inl ((.ofNat 255, .ofNat 255), some (6, .ofNat 0)), .inr (.inl (.ofNat 1152921504606846975, .ofNat 1152921504606846975))]))) 67 (.inl (0, 8, (zrset (zrset (zrset (zrset (zrset (zrset (zrset (zrmk 8 (.inl ((.ofNat 0, .ofNat 0), none))) 1 (.inl ((.ofNat 1, .ofNat 1), none))) 2 (.inl ((.ofNat 2, .ofNat 2), none))) 3 (.inl ((.ofNat 3, .ofNat 3), none))) 4 (.inl ((.ofNat 4, .ofNat 4), none))) 5 (.inl ((.ofNat 5, .ofNat 5), none))) 6 (.inl ((.ofNat 6, .ofNat 6), none))) 7 (.inl ((.ofNat 7, .ofNat 7), none)))))) 76 (.inl (2, 256, [[.inl ((.ofNat 1, .ofNat 1), none), .inl ((.ofNat 0, .ofNat 1), none), .inl ((.ofNat 0, .ofNat 1), none), .inl ((.ofNat 0, .ofNat 1), none), .inl ((.ofNat 0, .ofNat 1), none), .inl ((.ofNat 0, .ofNat 1), none), .inl ((.ofNat 0, .ofNat 1), none), .inl ((.ofNat 0, .ofNat 1), none), .inl ((.ofNat 0, .ofNat 1), none), .inl ((.ofNat 0, .ofNat 1), none), .inl ((.ofNat 0, .ofNat 1), none), .inl ((.ofNat 0, .ofNat 1), none), .inl ((.ofNat 0, .ofNat 1), none), .inl ((.ofNat 0, .ofNat 1), none), .inl ((.ofNat 0, .ofNat 1), none), .inl ((.ofNat 0, .ofNat 1), none)], List.replicate 16 (.inl ((.ofNat 0, .ofNat 1), none)), List.replicate 16 (.inl ((.ofNat 0, .ofNat 1), none)), List.replicate 16 (.inl ((.ofNat 0, .ofNat 1), none)), List.replicate 16 (.inl ((.ofNat 0, .ofNat 1), none)), List.replicate 16 (.inl ((.ofNat 0, .ofNat 1), none)), List.replicate 16 (.inl ((.ofNat 0, .ofNat 1), none)), List.replicate 16 (.inl ((.ofNat 0, .ofNat 1), none)), List.replicate 16 (.inl ((.ofNat 0, .ofNat 1), none)), List.replicate 16 (.inl ((.ofNat 0, .ofNat 1), none)), List.replicate 16 (.inl ((.ofNat 0, .ofNat 1), none)), List.replicate 16 (.inl ((.ofNat 0, .ofNat 1), none)), List.replicate 16 (.inl ((.ofNat 0, .ofNat 1), none)), List.replicate 16 (.inl ((.ofNat 0, .ofNat 1), none)), List.replicate 16 (.inl ((.ofNat 0, .ofNat 1), none)), List.replicate 16 (.inl ((.ofNat 0, .ofNat 1), none)), List.replicate 16 (.inl ((.ofNat 0, .ofNat 0), none))]))), 0, 0)
noncomputable def kheld_h2 : zH := (126, zrset (zrset (zrset (zHF.2) 64 (.inr (4, [.inr (.inr (.inl 65)), .inr (.inr (.inl 66)), .inr (.inr (.inl 67)), .inr (.inr (.inl 68)), .inr (.inr (.inl 69)), .inr (.inr (.inl 70)), .inr (.inr (.inl 71)), .inr (.inr (.inl 72)), .inr (.inr (.inl 73)), .inr (.inr (.inl 74)), .inr (.inr (.inl 75)), .inr (.inr (.inl 76)), .inr (.inr (.inl 77)), .inl ((.ofNat 255, .ofNat 255), none), .inr (.inl (.ofNat 1152921504606846975, .ofNat 1152921504606846975))]))) 67 (.inl (0, 8, (zrset (zrset (zrset (zrset (zrset (zrset (zrset (zrmk 8 (.inl ((.ofNat 0, .ofNat 0), none))) 1 (.inl ((.ofNat 1, .ofNat 1), none))) 2 (.inl ((.ofNat 2, .ofNat 2), none))) 3 (.inl ((.ofNat 3, .ofNat 3), none))) 4 (.inl ((.ofNat 4, .ofNat 4), none))) 5 (.inl ((.ofNat 5, .ofNat 5), none))) 6 (.inl ((.ofNat 6, .ofNat 6), none))) 7 (.inl ((.ofNat 7, .ofNat 7), none)))))) 76 (.inl (2, 256, [[.inl ((.ofNat 1, .ofNat 1), none), .inl ((.ofNat 0, .ofNat 1), none), .inl ((.ofNat 0, .ofNat 1), none), .inl ((.ofNat 0, .ofNat 1), none), .inl ((.ofNat 0, .ofNat 1), none), .inl ((.ofNat 0, .ofNat 1), none), .inl ((.ofNat 0, .ofNat 1), none), .inl ((.ofNat 0, .ofNat 1), none), .inl ((.ofNat 0, .ofNat 1), none), .inl ((.ofNat 0, .ofNat 1), none), .inl ((.ofNat 0, .ofNat 1), none), .inl ((.ofNat 0, .ofNat 1), none), .inl ((.ofNat 0, .ofNat 1), none), .inl ((.ofNat 0, .ofNat 1), none), .inl ((.ofNat 0, .ofNat 1), none), .inl ((.ofNat 0, .ofNat 1), none)], List.replicate 16 (.inl ((.ofNat 0, .ofNat 1), none)), List.replicate 16 (.inl ((.ofNat 0, .ofNat 1), none)), List.replicate 16 (.inl ((.ofNat 0, .ofNat 1), none)), List.replicate 16 (.inl ((.ofNat 0, .ofNat 1), none)), List.replicate 16 (.inl ((.ofNat 0, .ofNat 1), none)), List.replicate 16 (.inl ((.ofNat 0, .ofNat 1), none)), List.replicate 16 (.inl ((.ofNat 0, .ofNat 1), none)), List.replicate 16 (.inl ((.ofNat 0, .ofNat 1), none)), List.replicate 16 (.inl ((.ofNat 0, .ofNat 1), none)), List.replicate 16 (.inl ((.ofNat 0, .ofNat 1), none)), List.replicate 16 (.inl ((.ofNat 0, .ofNat 1), none)), List.replicate 16 (.inl ((.ofNat 0, .ofNat 1), none)), List.replicate 16 (.inl ((.ofNat 0, .ofNat 1), none)), List.replicate 16 (.inl ((.ofNat 0, .ofNat 1), none)), List.replicate 16 (.inl ((.ofNat 0, .ofNat 1), none)), List.replicate 16 (.inl ((.ofNat 0, .ofNat 0), none))])))
noncomputable def kheld_av : List zAV := [.inr (.inr (.inl 64))]
def kheld_M0 : zMp := [((none, .ofNat 1), (5, .ofNat 0)), ((none, .ofNat 255), (6, .ofNat 0))]
def kheld_M1 : zMp := [((some 5, .ofNat 1), (5, .ofNat 0)), ((some 6, .ofNat 0), (6, .ofNat 0))]
noncomputable def kheld_c : zCode := zrset mX4_findLacks.2.2.2.2.2.2 41 (some (zo_ldN 42 1 5 (.ofNat 1, .ofNat 255)))
set_option maxRecDepth 100000 in
theorem kheld_0 : zrunv zprog zov0 100000 100 20000 (zrset mX4_findLacks.2.2.2.2.2.2 32 (some (zo_cut (fun c => zcvK kheld_M0 c kheld_C)))) (fun _ _ => false) 0 (zargs 0 kheld_av, [], kheld_hh, 0, 0) = true := by decide +kernel
set_option maxRecDepth 100000 in
theorem kheld_1 : zrunv zprog kbit_ov 100000 100 20000 (zrset (zrset kheld_c 37 (some (zo_ic (zdcT 5 6 false) 51 40))) 48 (some (zo_cut (fun c => zcvK kheld_M1 c kheld_C)))) (fun _ _ => false) 32 kheld_C = true := by decide +kernel
set_option maxRecDepth 100000 in
theorem kheld_2 : zrunv zprog zov0 100000 100 20000 (zrset mX4_findLacks.2.2.2.2.2.2 37 (some (zo_ic (zdcT 5 6 true) 51 40))) (zcvR [] none kheld_h2) 32 kheld_C = true := by decide +kernel
noncomputable def kheld_d : zKd := (52, 2, 100, 20000, kheld_av, kheld_hh, none, kheld_h2)
theorem z255i : Int32.ofInt (.ofNat 255) = 255 := by decide +kernel
theorem kheld_k {l : Launch} {D : va_G} {tys : List (ClassId × FieldType)} {o : zO} {z : Nat} (E : zEnv tys) {fb : Nat → Int32} : zKn l D vwCl tys (zwith o fb) z (zXX o z) zTs mX4_findLacks 100 20000 kheld_av kheld_hh none kheld_h2 := by
  refine zKn_loop (prog := zprog) (mi := 52) (mr := mX4_findLacks) (code' := kheld_c) (hp := 32) (cp := 37) (gp := 48) (n1 := 5) (n2 := 6) (t := 51) (nx := 40) zXX_ok (fun f => zprog_ok (o := zwith o f) E) rfl (show zrget kX4_findLacks 32 = some _ from rfl) (show zrget kheld_c 48 = some (some (zo_goto 32)) from rfl) (show zrget kheld_c 37 = some _ from rfl) (show zrget kX4_findLacks 37 = some _ from rfl) (by decide) (fun x y => y < x)
    (fun p e R s m args below meth c0 Q ws f b C hd => zk_ic C (P := fun x y => y < x) (fun a b x y _ _ t1 t2 => zdcT_ok (P := fun x y => y < x) (n1 := 5) (n2 := 6) hd t1 t2) (fun _ _ _ _ _ _ _ _ k1 k2 => lv_icmp_gt C.1 C.2.1 dX4_findLacks_37 (by decide) k1 k2))
    (fun f k => (f 5).toInt + k = 256 ∧ 1 ≤ (f 5).toInt ∧ f 6 = 255) ?_
    (f0 := fun q => if q = 5 then 1 else if q = 6 then 255 else fb q) (k0 := 255) (M0 := kheld_M0) ?_ ⟨?_, ?_, rfl⟩ zov0_ok kheld_0 ?_ ?_
  · intro p e R s m args below meth c0 Q ws f k hbc hbs C hI
    obtain ⟨i1, i2, i3⟩ := hI
    have h0 := (zprog_ok (l := l) (D := D) (o := zwith o f) (z := z) E 52 mX4_findLacks rfl).2 p e R s m args below meth c0 Q ws hbc hbs C
    exact zpt (P := fun pc sem => zOp p l e R s m args below meth c0 Q D vwCl tys (zwith o f) z (zXX o z) zTs zprog ws mX4_findLacks.2.2.1 mX4_findLacks.2.1 mX4_findLacks.2.2.2.1 pc sem) h0 (show zrget kX4_findLacks 41 = some _ from rfl) (zk_ldN C (n := 5) (iv := (.ofNat 1, .ofNat 255)) ⟨i2, by show (f 5).toInt ≤ 255; omega⟩ (fun _ _ _ _ _ _ _ hl kk => lv_iload_n C.1 C.2.1 dX4_findLacks_41 rfl hl kk))
  · intro m hm
    simp only [kheld_M0, List.mem_cons, List.not_mem_nil, or_false] at hm
    rcases hm with rfl | rfl
    · show Int32.ofInt (.ofNat 1) = 1 + Int32.ofInt (.ofNat 0)
      rw [z0i, z1i]; rfl
    · show Int32.ofInt (.ofNat 255) = 255 + Int32.ofInt (.ofNat 0)
      rw [z0i, z255i]; rfl
  · show (1 : Int32).toInt + _ = _
    rw [show (1 : Int32).toInt = 1 by decide]
    rfl
  · show 1 ≤ (1 : Int32).toInt
    decide
  · rintro f k ⟨i1, i2, i3⟩
    have h5 := zinc_i (x := f 5) (n := 256) (by omega) (by omega)
    have h255 : (255 : Int32).toInt = 255 := by decide
    refine ⟨?_, (fun q => if q = 5 then f 5 + 1 else f q), kheld_M1, kbit_ov, 100000, ⟨?_, ?_, i3⟩, ?_, kbit_ok E, kheld_1⟩
    · rw [Int32.lt_iff_toInt_lt, i3, h255]
      omega
    · show (f 5 + 1).toInt + _ = _
      omega
    · show 1 ≤ (f 5 + 1).toInt
      omega
    · intro m hm
      simp only [kheld_M1, List.mem_cons, List.not_mem_nil, or_false] at hm
      rcases hm with rfl | rfl
      · show f 5 + Int32.ofInt (.ofNat 1) = f 5 + 1 + Int32.ofInt (.ofNat 0)
        rw [z0i, z1i, Int32.add_zero]
      · rfl
  · rintro f ⟨i1, i2, i3⟩
    have h255 : (255 : Int32).toInt = 255 := by decide
    refine ⟨?_, [], zov0, 100000, zMok_nil, zov0_ok, kheld_2⟩
    rw [Int32.lt_iff_toInt_lt, i3, h255]
    omega
set_option maxRecDepth 100000 in
theorem zlw_41_0 : zrunL (zov0) (zsc (.negSucc 2147483647, .negSucc 0) zall) (.ofNat 41, .ofNat 41) = true := by decide +kernel
set_option maxRecDepth 100000 in
theorem zlw_41_1 : zrunL (zovL (zMid [(1, .ofNat 0)]) [kheld_d]) (zsc (.ofNat 0, .ofNat 10) zall) (.ofNat 41, .ofNat 41) = true := by decide +kernel
set_option maxRecDepth 100000 in
theorem zlw_41_2 : zrunL (zov0) (zsc (.ofNat 11, .ofNat 2147483647) zall) (.ofNat 41, .ofNat 41) = true := by decide +kernel
theorem zcase_41 {p : Program} {l : Launch} {e : Env} {s : State} {m : MethodId} {below : List Frame} {meth : Method} {c : Code} {b : Nat} {xs : Nat → Int32} {D : va_G} {tys : List (ClassId × FieldType)} {adr : Nat → Nat} {nm : String} (E : zEnv tys) (C : ∀ o : zO, o.1 = b → o.2.1 = adr → zCx p room_1 s m #[Value.ref b] meth c D vwCl tys s.heap.size (zXX o s.heap.size) zTs RL cL_law 8 nm) (hX : va_X b 5 xs s s.heap) (hbl : b < s.heap.size) (hr : meth.sig.returnType = ret) (hlocks : meth.locks = false) {ls : Array Slot} (hl : lv_has ls 8 [(0, .ref b)]) (hj : zmi (.ofNat 41, .ofNat 41) (xs 0 &&& 63)) : W p l e room_1 s m #[Value.ref b] below meth c s.heap [] 0 0 (lw_Z below #[Value.ref b] s) (F0 m 0 ls []) := by
  obtain ⟨q, hq, h1⟩ := zcov_ok (x := xs 1) (l := [(.negSucc 2147483647, .negSucc 0), (.ofNat 0, .ofNat 10), (.ofNat 11, .ofNat 2147483647)]) (lo := -2147483648) (by decide +kernel) (z32 _).1
  simp only [List.mem_cons, List.not_mem_nil, or_false] at hq
  rcases hq with rfl | rfl | rfl
  · exact zfiveW E C hX hbl hr hlocks hl (b2 := zall) hj h1 (z32 _) (f := zfn xs 0) rfl rfl rfl zov0_ok zlw_41_0
  · refine zfiveW E C hX hbl hr hlocks hl (b2 := zall) hj h1 (z32 _) (f := zfn xs 0) rfl rfl rfl (zovL_ok (o := (b, adr, zfn xs 0)) zMid_ok (zprog_ok E) ?_) zlw_41_1
    intro d hd mr hmr
    simp only [List.mem_cons, List.not_mem_nil, or_false] at hd
    subst hd
    have hmr : some mX4_findLacks = some mr := hmr
    cases hmr
    exact ⟨rfl, by decide, by decide, kheld_k (o := (b, adr, zfn xs 0)) E⟩
  · exact zfiveW E C hX hbl hr hlocks hl (b2 := zall) hj h1 (z32 _) (f := zfn xs 0) rfl rfl rfl zov0_ok zlw_41_2
