theorem zRetF {p : Program} {l : Launch} {e : Env} {R : Room} {s : State} {m : MethodId} {args : Array Value} {below : List Frame} {meth : Method} {c0 : Code} {Q : State → Prop} {D : va_G} {cl : List vw_C} {tys : List (ClassId × FieldType)} {o : zO} {z : Nat} {ws0 : va_W} {cc : ByteArray} {ret : Option FieldType} : zRetOk p l e R s m args below meth c0 Q D cl tys o z ws0 cc ret (fun _ _ => false) := by
  intro pc ls v r h H locs ws cells slots _ _ _ _ _ _ _ _ _ q
  cases q
/-- the walk of five ints out of the kernel's runs -/
theorem zfive {p : Program} {l : Launch} {e : Env} {s : State} {m : MethodId} {below : List Frame} {meth : Method} {c : Code} {b : Nat} {xs : Nat → Int32} {D : va_G} {tys : List (ClassId × FieldType)} {adr : Nat → Nat} {nm : String} (E : zEnv tys) (C : ∀ o : zO, o.1 = b → o.2.1 = adr → zCx p room_1 s m #[Value.ref b] meth c D vwCl tys s.heap.size (zXX o s.heap.size) zTs RL cL_law 8 nm) (hX : va_X b 5 xs s s.heap) (hbl : b < s.heap.size) (hr : meth.sig.returnType = ret) (hlocks : meth.locks = false) {ls : Array Slot} (hl : lv_has ls 8 [(0, .ref b)]) {jq : zI} {l1 l2 l3 l4 : List zI} (hrun : zlaw (zmany jq l1 l2 l3 l4) = true) (hj : zmi jq (xs 0 &&& 63)) (k1 : zcov (-2147483648) l1 = true) (k2 : zcov (-2147483648) l2 = true) (k3 : zcov (-2147483648) l3 = true) (k4 : zcov (-2147483648) l4 = true) : W p l e room_1 s m #[Value.ref b] below meth c s.heap [] 0 0 (lw_Z below #[Value.ref b] s) (F0 m 0 ls []) := by
  obtain ⟨o, ho⟩ : ∃ o : zO, o = (b, adr, fun _ => xs 0) := ⟨_, rfl⟩
  have C := C o (by rw [ho]) (by rw [ho])
  have eb : o.1 = b := by rw [ho]
  have e0 : o.2.2 0 = xs 0 := by rw [ho]
  have hX' : va_X o.1 5 xs s s.heap := by rw [eb]; exact hX
  have hbl' : o.1 < s.heap.size := by rw [eb]; exact hbl
  have hbA : ¬ zA s.heap.size o.1 := Nat.not_le.mpr hbl'
  have hj' : zmi jq (o.2.2 0 &&& 63) := by rw [e0]; exact hj
  have h5 : zmem (.ofNat 5, .ofNat 5) (Int32.ofNat 5).toInt := ⟨by decide +kernel, by decide +kernel⟩
  obtain ⟨b1, m1, q1⟩ := zcov_ok (x := xs 1) k1 (z32 _).1
  obtain ⟨b2, m2, q2⟩ := zcov_ok (x := xs 2) k2 (z32 _).1
  obtain ⟨b3, m3, q3⟩ := zcov_ok (x := xs 3) k3 (z32 _).1
  obtain ⟨b4, m4, q4⟩ := zcov_ok (x := xs 4) k4 (z32 _).1
  have go5 : ∀ cf, zmany jq l1 l2 l3 l4 cf = true → zGo p l e room_1 s m #[Value.ref b] below meth c (lw_Z below #[Value.ref b] s) D vwCl tys o s.heap.size [] 8 32 cf := by
    intro cf hcf
    unfold zmany at hcf
    have h1 := List.all_eq_true.mp (List.all_eq_true.mp (List.all_eq_true.mp (List.all_eq_true.mp hcf b1 m1) b2 m2) b3 m3) b4 m4
    unfold zrun5 at h1
    refine zrun_ok zXX_ok (zprog_ok E) 100000 p e room_1 s m #[Value.ref b] below meth c (lw_Z below #[Value.ref b] s) [] 8 cL_law (some .boolean) _ (okLaw E C hX' hbl' hbA rfl h5 ?_ hr hlocks hj') 2048 84000 (by decide) (by decide) _ zRetF 32 cf h1
    intro i q hq
    match i, hq with
    | 0, hq => cases hq; exact ⟨by decide, z32 _, by show xs 0 = o.2.2 0 + Int32.ofInt (.ofNat 0); rw [e0]; exact (Int32.add_zero _).symm⟩
    | 1, hq => cases hq; exact ⟨by decide, q1, trivial⟩
    | 2, hq => cases hq; exact ⟨by decide, q2, trivial⟩
    | 3, hq => cases hq; exact ⟨by decide, q3, trivial⟩
    | 4, hq => cases hq; exact ⟨by decide, q4, trivial⟩
    | i + 5, hq => simp at hq
  unfold zlaw at hrun
  have hops : ∀ pc sem, zrget (kLawC (zmany jq l1 l2 l3 l4)) pc = some (some sem) → zOp p l e room_1 s m #[Value.ref b] below meth c (lw_Z below #[Value.ref b] s) D vwCl tys o s.heap.size (zXX o s.heap.size) zTs zprog [] 8 cL_law (some .boolean) pc sem := by
    intro pc sem h
    unfold kLawC at h
    have hat : ∃ y, zrget (kLaw (.ofNat 5, .ofNat 5) [] (.ofNat 0, .ofNat 63)) 32 = some y := ⟨_, rfl⟩
    obtain ⟨y, hy⟩ := hat
    rw [zrget_set hy] at h
    by_cases hp : pc = 32
    · rw [if_pos hp] at h
      have h : some (zo_cut (zmany jq l1 l2 l3 l4)) = some sem := Option.some.inj h
      cases h
      rw [hp]
      intro call rt go cf _ _ _ hs
      exact go5 cf hs
    · rw [if_neg hp] at h
      exact okLaw E C hX' hbl' hbA rfl h5 (fun i q hq => by simp at hq) hr hlocks (by have := zand_r (x := o.2.2 0) (y := 63) (by decide); exact this) pc sem h
  have hz : zSat D vwCl tys o s.heap.size [] 8 s.heap zc0 ls [] s.heap [] [] := zSat0 (by rw [eb]; exact hl)
  exact zrun_ok zXX_ok (zprog_ok E) 100000 p e room_1 s m #[Value.ref b] below meth c (lw_Z below #[Value.ref b] s) [] 8 cL_law (some .boolean) _ hops 2048 84000 (by decide) (by decide) _ zRetF 0 zc0 hrun ls [] s.heap [] [] hz
theorem zj {x : Int32} {n : Nat} (h : x.toInt = (n : Int)) : zmi (.ofNat n, .ofNat n) x := ⟨by rw [h]; exact Int.le_refl _, by rw [h]; exact Int.le_refl _⟩
set_option maxHeartbeats 4000000 in
set_option maxRecDepth 100000 in
/-- THE LAW, from its entry -/
theorem whole_start {p : Program} {e : Env} {s : State} {m : MethodId} {below : List Frame} {meth : Method} {c : Code} (l : Launch) (hflags : l.flags = flags0) {b L : Nat} {xs : Nat → Int32} (hL : L ≤ 5) (C0 : lw_At p s m meth c b L xs) : W p l e room_1 s m #[Value.ref b] below meth c s.heap [] 0 0 (lw_Z below #[Value.ref b] s) (entryFrame m ([Value.ref b] : List Value).toArray 8) := by
  obtain ⟨hx, hb, hr, hml, hown, hts, hX, hbl, hlocks, hgv⟩ := id C0
  obtain ⟨D, tys, adr, hK, E, hXX⟩ := zstart hts hgv
  have hts' : ∀ w ∈ zTs, w.before #[Value.ref b] s = true := fun w h => hts w (List.mem_filter.mp h).1
  have hst : l.stackTraces = false := by unfold Launch.stackTraces; rw [hflags]; decide
  have hTh := zTh_start hts hgv
  have hl := lv_entry ([.ref b]) (n := 8) (Nat.le_of_ble_eq_true rfl)
  rw [lg_entry_eq]
  generalize (lg_sl ([.ref b]) ++ List.replicate (8 - (lg_sl ([.ref b])).length) Slot.unset).toArray = ls at hl ⊢
  have hl : lv_has ls 8 [(0, .ref b)] := hl
  have C : ∀ o : zO, o.1 = b → o.2.1 = adr → zCx p room_1 s m #[Value.ref b] meth c D vwCl tys s.heap.size (zXX o s.heap.size) zTs RL cL_law 8 meth.name := by
    intro o h1 h2
    obtain ⟨ob, oa, of⟩ := o
    have h1 : ob = b := h1
    have h2 : oa = adr := h2
    subst h1
    subst h2
    exact ⟨hx, hb, hml, hown, hts', hK, rfl, hXX of, Nat.le_refl _, by decide, by decide⟩
  by_cases h5 : L = 5
  · subst h5
    have hr0 := zand_r (x := xs 0) (y := 63) (by decide)
    have h63 : (63 : Int32).toInt = 63 := by decide
    obtain ⟨n, hn⟩ : ∃ n : Nat, (xs 0 &&& 63).toInt = (n : Int) := ⟨(xs 0 &&& 63).toInt.toNat, by omega⟩
    have hn64 : n < 64 := by omega
    by_cases h50 : n < 50
    · match n, h50, hn with
      | 0, _, e => exact zfive E C hX hbl hr hlocks hl zrun_0 (zj e) (by decide +kernel) (by decide +kernel) (by decide +kernel) (by decide +kernel)
      | 1, _, e => exact zfive E C hX hbl hr hlocks hl zrun_1 (zj e) (by decide +kernel) (by decide +kernel) (by decide +kernel) (by decide +kernel)
      | 2, _, e => exact zfive E C hX hbl hr hlocks hl zrun_2 (zj e) (by decide +kernel) (by decide +kernel) (by decide +kernel) (by decide +kernel)
      | 3, _, e => exact zfive E C hX hbl hr hlocks hl zrun_3 (zj e) (by decide +kernel) (by decide +kernel) (by decide +kernel) (by decide +kernel)
      | 4, _, e => exact zcase_4 E C hX hbl hr hlocks hl hst hTh (zj e)
      | 5, _, e => exact zfive E C hX hbl hr hlocks hl zrun_5 (zj e) (by decide +kernel) (by decide +kernel) (by decide +kernel) (by decide +kernel)
      | 6, _, e => exact zfive E C hX hbl hr hlocks hl zrun_6 (zj e) (by decide +kernel) (by decide +kernel) (by decide +kernel) (by decide +kernel)
      | 7, _, e => exact zfive E C hX hbl hr hlocks hl zrun_7 (zj e) (by decide +kernel) (by decide +kernel) (by decide +kernel) (by decide +kernel)
      | 8, _, e => exact zfive E C hX hbl hr hlocks hl zrun_8 (zj e) (by decide +kernel) (by decide +kernel) (by decide +kernel) (by decide +kernel)
      | 9, _, e => exact zfive E C hX hbl hr hlocks hl zrun_9 (zj e) (by decide +kernel) (by decide +kernel) (by decide +kernel) (by decide +kernel)
      | 10, _, e => exact zfive E C hX hbl hr hlocks hl zrun_10 (zj e) (by decide +kernel) (by decide +kernel) (by decide +kernel) (by decide +kernel)
      | 11, _, e => exact zcase_11 E C hX hbl hr hlocks hl (zj e)
      | 12, _, e => exact zfive E C hX hbl hr hlocks hl zrun_12 (zj e) (by decide +kernel) (by decide +kernel) (by decide +kernel) (by decide +kernel)
      | 13, _, e => exact zfive E C hX hbl hr hlocks hl zrun_13 (zj e) (by decide +kernel) (by decide +kernel) (by decide +kernel) (by decide +kernel)
      | 14, _, e => exact zfive E C hX hbl hr hlocks hl zrun_14 (zj e) (by decide +kernel) (by decide +kernel) (by decide +kernel) (by decide +kernel)
      | 15, _, e => exact zfive E C hX hbl hr hlocks hl zrun_15 (zj e) (by decide +kernel) (by decide +kernel) (by decide +kernel) (by decide +kernel)
      | 16, _, e => exact zcase_16 E C hX hbl hr hlocks hl (zj e)
      | 17, _, e => exact zcase_17 E C hX hbl hr hlocks hl (zj e)
      | 18, _, e => exact zfive E C hX hbl hr hlocks hl zrun_18 (zj e) (by decide +kernel) (by decide +kernel) (by decide +kernel) (by decide +kernel)
      | 19, _, e => exact zfive E C hX hbl hr hlocks hl zrun_19 (zj e) (by decide +kernel) (by decide +kernel) (by decide +kernel) (by decide +kernel)
      | 20, _, e => exact zfive E C hX hbl hr hlocks hl zrun_20 (zj e) (by decide +kernel) (by decide +kernel) (by decide +kernel) (by decide +kernel)
      | 21, _, e => exact zfive E C hX hbl hr hlocks hl zrun_21 (zj e) (by decide +kernel) (by decide +kernel) (by decide +kernel) (by decide +kernel)
      | 22, _, e => exact zfive E C hX hbl hr hlocks hl zrun_22 (zj e) (by decide +kernel) (by decide +kernel) (by decide +kernel) (by decide +kernel)
      | 23, _, e => exact zfive E C hX hbl hr hlocks hl zrun_23 (zj e) (by decide +kernel) (by decide +kernel) (by decide +kernel) (by decide +kernel)
      | 24, _, e => exact zfive E C hX hbl hr hlocks hl zrun_24 (zj e) (by decide +kernel) (by decide +kernel) (by decide +kernel) (by decide +kernel)
      | 25, _, e => exact zfive E C hX hbl hr hlocks hl zrun_25 (zj e) (by decide +kernel) (by decide +kernel) (by decide +kernel) (by decide +kernel)
      | 26, _, e => exact zfive E C hX hbl hr hlocks hl zrun_26 (zj e) (by decide +kernel) (by decide +kernel) (by decide +kernel) (by decide +kernel)
      | 27, _, e => exact zcase_27 E C hX hbl hr hlocks hl (zj e)
      | 28, _, e => exact zfive E C hX hbl hr hlocks hl zrun_28 (zj e) (by decide +kernel) (by decide +kernel) (by decide +kernel) (by decide +kernel)
      | 29, _, e => exact zfive E C hX hbl hr hlocks hl zrun_29 (zj e) (by decide +kernel) (by decide +kernel) (by decide +kernel) (by decide +kernel)
      | 30, _, e => exact zfive E C hX hbl hr hlocks hl zrun_30 (zj e) (by decide +kernel) (by decide +kernel) (by decide +kernel) (by decide +kernel)
      | 31, _, e => exact zfive E C hX hbl hr hlocks hl zrun_31 (zj e) (by decide +kernel) (by decide +kernel) (by decide +kernel) (by decide +kernel)
      | 32, _, e => exact zfive E C hX hbl hr hlocks hl zrun_32 (zj e) (by decide +kernel) (by decide +kernel) (by decide +kernel) (by decide +kernel)
      | 33, _, e => exact zfive E C hX hbl hr hlocks hl zrun_33 (zj e) (by decide +kernel) (by decide +kernel) (by decide +kernel) (by decide +kernel)
      | 34, _, e => exact zfive E C hX hbl hr hlocks hl zrun_34 (zj e) (by decide +kernel) (by decide +kernel) (by decide +kernel) (by decide +kernel)
      | 35, _, e => exact zfive E C hX hbl hr hlocks hl zrun_35 (zj e) (by decide +kernel) (by decide +kernel) (by decide +kernel) (by decide +kernel)
      | 36, _, e => exact zfive E C hX hbl hr hlocks hl zrun_36 (zj e) (by decide +kernel) (by decide +kernel) (by decide +kernel) (by decide +kernel)
      | 37, _, e => exact zfive E C hX hbl hr hlocks hl zrun_37 (zj e) (by decide +kernel) (by decide +kernel) (by decide +kernel) (by decide +kernel)
      | 38, _, e => exact zfive E C hX hbl hr hlocks hl zrun_38 (zj e) (by decide +kernel) (by decide +kernel) (by decide +kernel) (by decide +kernel)
      | 39, _, e => exact zfive E C hX hbl hr hlocks hl zrun_39 (zj e) (by decide +kernel) (by decide +kernel) (by decide +kernel) (by decide +kernel)
      | 40, _, e => exact zfive E C hX hbl hr hlocks hl zrun_40 (zj e) (by decide +kernel) (by decide +kernel) (by decide +kernel) (by decide +kernel)
      | 41, _, e => exact zcase_41 E C hX hbl hr hlocks hl (zj e)
      | 42, _, e => exact zfive E C hX hbl hr hlocks hl zrun_42 (zj e) (by decide +kernel) (by decide +kernel) (by decide +kernel) (by decide +kernel)
      | 43, _, e => exact zcase_43 E C hX hbl hr hlocks hl (zj e)
      | 44, _, e => exact zfive E C hX hbl hr hlocks hl zrun_44 (zj e) (by decide +kernel) (by decide +kernel) (by decide +kernel) (by decide +kernel)
      | 45, _, e => exact zcase_45 E C hX hbl hr hlocks hl (zj e)
      | 46, _, e => exact zfive E C hX hbl hr hlocks hl zrun_46 (zj e) (by decide +kernel) (by decide +kernel) (by decide +kernel) (by decide +kernel)
      | 47, _, e => exact zfive E C hX hbl hr hlocks hl zrun_47 (zj e) (by decide +kernel) (by decide +kernel) (by decide +kernel) (by decide +kernel)
      | 48, _, e => exact zfive E C hX hbl hr hlocks hl zrun_48 (zj e) (by decide +kernel) (by decide +kernel) (by decide +kernel) (by decide +kernel)
      | 49, _, e => exact zcase_49 E C hX hbl hr hlocks hl hst hTh (zj e)
      | k + 50, h, _ => exact absurd h (by omega)
    · exact zfive E C hX hbl hr hlocks hl zrun_dflt ⟨by rw [hn]; show (50 : Int) ≤ n; omega, by rw [hn]; show (n : Int) ≤ 63; omega⟩ (by decide +kernel) (by decide +kernel) (by decide +kernel) (by decide +kernel)
  · have C := C (b, adr, fun _ => 0) rfl rfl
    have hlq : zmem (.ofNat 0, .ofNat 4) (Int32.ofNat L).toInt := by
      have e : (Int32.ofNat L).toInt = (L : Int) := nI_toInt (by omega)
      rw [e]
      exact ⟨by show (0 : Int) ≤ L; omega, by show (L : Int) ≤ 4; omega⟩
    exact zrun_ok zXX_ok (zprog_ok E) 100000 p e room_1 s m #[Value.ref b] below meth c (lw_Z below #[Value.ref b] s) [] 8 cL_law (some .boolean) _ (okLaw E C hX hbl (Nat.not_le.mpr hbl) rfl hlq (fun i q hq => by simp at hq) hr hlocks (show zmi (0, 0) ((0 : Int32) &&& 63) from ⟨by decide +kernel, by decide +kernel⟩)) 2048 84000 (by decide) (by decide) _ zRetF 0 zc0 zrun_short ls [] s.heap [] [] (zSat0 hl)

set_option maxHeartbeats 4000000 in
theorem lw_walk (l : Launch) (hflags : l.flags = flags0) (b : Addr) (xs : List Int32) : MetFree l x (headSpec (Jvm.Cond.code x code maxLocals ret :: tables_1) room_1) (lw_P b xs) (fun _ _ _ _ _ => True) lw_Q := by
  refine MetFree.of_bodyS (code := code) (maxLocals := maxLocals) (ret := ret) (by decide) ?_ ?_
  · intro args s m h hn
    obtain ⟨meth, c, h1, h2, h3, h4, h5, h6, -, -⟩ := Cond.code_spec hn (atoms_spec (ws := Jvm.Cond.code x code maxLocals ret :: tables_1) h _ List.mem_cons_self)
    exact ⟨meth, c, h1, h2, h3, h4, h5, h6⟩
  · intro p e s m args below meth c s₁ B hml0 hP _
    obtain ⟨rfl, hx, hbd, hgv⟩ := hP
    obtain ⟨scr, harrAt, hlist, hof, hsmall⟩ := hx
    obtain ⟨hcb, hkn, -, -⟩ := State.arrayAt?_spec harrAt
    have hown : s.vm.findClass R_law = some m.cls := findClass_of_methodNamed B.named
    have hts0 : ∀ c ∈ (Jvm.Cond.code x code maxLocals ret :: tables_1), c.before #[Value.ref b] s = true := atoms_spec (ws := Jvm.Cond.code x code maxLocals ret :: tables_1) B.pre
    have hts : ∀ w ∈ lw_tbl, w.before #[Value.ref b] s = true := k2_hts_sels lw_privs (fun w hw => hts0 w (List.mem_cons_of_mem _ hw)) lw_privs_ok
    have hml : c.maxLocals = 8 := B.maxLocals_eq (hts0 _ List.mem_cons_self)
    have X₀ : Stand p l e room_1 s m #[Value.ref b] below meth c s₁ [] 0 0 := Stand.of_body B
    have hh0 : s₁.heap = s.heap := by rw [B.state]; rfl
    have hsz : scr.slots.size = xs.length := by rw [← Array.length_toList, hlist, List.length_map]
    have hval : ∀ j : Nat, j < xs.length → scr.slots[j]? = some (.int (xs.getD j 0)) := fun j hj => by
      rw [← Array.getElem?_toList, hlist]
      simp [hj]
    have hbl : b < s.heap.size := (Array.getElem?_eq_some_iff.mp hcb).1
    have hX : va_X b xs.length (fun j => xs.getD j 0) s s.heap := ⟨scr, hcb, hof, hkn, hsz, hval⟩
    have K : W p l e room_1 s m #[Value.ref b] below meth c s₁.heap [] 0 0 (lw_Z below #[Value.ref b] s) (entryFrame m ([Value.ref b] : List Value).toArray 8) := by
      rw [hh0]
      exact whole_start l hflags hbd ⟨B.exec, B.bytes, B.returns, hml, hown, hts, hX, hbl, B.notSynchronized, hgv⟩
    obtain ⟨t, a1, o, b1, b2, b3⟩ := K s₁ rfl X₀
    exact ⟨t, o, a1, b1, b2, b3⟩
theorem lw_pre_spec {args : Array Value} {s : State} (h : (Jvm.Cond.and given_1 narrow_1).before args s = true) (hr : rest_1_c.before args s = true) : ∃ (b : Addr) (xs : List Int32), lw_P b xs args s := by
  have hs := flat_of_before _ h
  have hq := flat_of_before _ hr
  have hc : (Cond.count 1).before args s = true := hs _ (by decide +kernel)
  have harr : (Cond.arrayOf (.arg 0) .int).before args s = true := hs _ (by decide +kernel)
  have hle : (Cond.le (.length (.arg 0)) (.int 5)).before args s = true := hs _ (by decide +kernel)
  have hlen : (Cond.isInt (.length (.arg 0))).before args s = true := hq _ (by decide +kernel)
  have hall : (Cond.all (.arg 0) (.isInt (.elem (.arg 0) (.index 0)))).before args s = true := hq _ (by decide +kernel)
  obtain ⟨b, xs, hb, hx⟩ := State.ints_of_pre rfl harr hlen hall
  have hsm : xs.length < 2 ^ 31 := hx.choose_spec.2.2.2
  have hev : (Term.length (.arg 0)).eval args s none [] s = some (.int xs.length.toInt32) := hx.length_eval hb
  have hv := Cond.le_ints hev (show (Term.int 5).eval args s none [] s = some (.int 5) from rfl)
  have hd : xs.length.toInt32 ≤ 5 := by
    simpa [Cond.before, Cond.holds, hv] using hle
  have hN : xs.length ≤ 5 := (Int32.ofNat_le_ofNat hsm (by decide)).mp (show Int32.ofNat xs.length ≤ Int32.ofNat 5 from hd)
  exact ⟨b, xs, Cond.one_arg hc (show args[0]? = some (.ref b) from hb), hx, hN, h⟩
theorem lw_comes (l : Launch) (hflags : l.flags = flags0) : Comes l x (Jvm.Cond.code x code maxLocals ret :: tables_1) room_1 (fun tb e args s => Calls_1 tb e args s ∧ rest_1 tb e args s ∧ Pre_1 tb e args s)
    (fun _ _ args s o t => lw_Q args s o t) := by
  intro p e ha hc hk s m args below hf hfit hheap happ hpre
  obtain ⟨b, xs, hP⟩ := lw_pre_spec hpre.2.2 hpre.2.1
  obtain ⟨k, o, h1, h2, h3, hQ⟩ := lw_walk l hflags b xs p e ha hc hk s m args below hf ((Spec.applies_iff_loose hf).mp happ).1 hP trivial
  exact ⟨k, o, h1, h2, h3, hQ⟩
theorem lw_frame {s t : State} {o : Outcome} {args : Array Value} (h : Framed s o t [] 600002 7302232) :
    Framed s o t (fieldLocs frame_1_writes args s ++ arrayLocs frame_1_arrays args s ++ staticLocs frame_1_statics s) 600002 7302232 := h
theorem lw_limb (L : Cond) (hL : ∀ (args : Array Value) (s t : State), L.after args s (.returned (some (.int 1))) t = true) :
    ArmFor flags0 classFile x code maxLocals ret World_1 tables_1 room_1 Calls_1 rest_1 Pre_1
      (fun tb e a s o t => postC L tb e a s o t ∧ Framed s o t (fieldLocs frame_1_writes a s ++ arrayLocs frame_1_arrays a s ++ staticLocs frame_1_statics s) 600002 7302232) := by
  intro l hflags _ _ p e ha hc hk s m args below hf hfit hheap happ hpre
  obtain ⟨k, o, h1, h2, h3, rfl, hF⟩ := lw_comes l hflags p e ha hc hk s m args below hf hfit hheap happ hpre
  exact ⟨k, _, h1, h2, h3, hL args s _, lw_frame hF⟩
theorem i_vc : Claimed_1_1 ∧ Claimed_1_2 := ⟨lw_limb limb_1_1 (fun args s t => by simp [limb_1_1, Cond.after, Cond.holds, Cond.value]), lw_limb limb_1_2 (fun args s t => Cond.after_iff.mpr (by
  first | (rw [show limb_1_2 = Cond.eq .result (.int 1) from rfl, Cond.eq_ints (x := 1) (y := 1) rfl rfl]; simp; done) | (simp [limb_1_2, Cond.value, Term.eval]; done)))⟩
