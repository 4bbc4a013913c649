section ZKINDS
variable {p : Program} {l : Launch} {e : Env} {R : Room} {s : State} {m : MethodId} {args : Array Value} {below : List Frame} {meth : Method} {c0 : Code} {Q : State → Prop} {D : va_G} {cl : List vw_C} {tys : List (ClassId × FieldType)} {o : zO} {z : Nat} {X : State → Heap → Prop} {Ts : List Cond} {prog : List zM} {ws0 : va_W} {nL : Nat} {own : String} {cc : ByteArray} {ret : Option FieldType} {nm : String}
theorem zeven {k : Nat} (h : (Nat.beq k 0 || Nat.beq k 2) = true) : ∃ i, i < 2 ∧ k = 2 * i := by
  rw [Bool.or_eq_true] at h
  rcases h with h | h
  · exact ⟨0, by decide, Nat.eq_of_beq_eq_true h⟩
  · exact ⟨1, by decide, Nat.eq_of_beq_eq_true h⟩
theorem zodd {k : Nat} (h : (Nat.beq k 1 || Nat.beq k 3) = true) : ∃ i, i < 2 ∧ k = 2 * i + 1 := by
  rw [Bool.or_eq_true] at h
  rcases h with h | h
  · exact ⟨0, by decide, Nat.eq_of_beq_eq_true h⟩
  · exact ⟨1, by decide, Nat.eq_of_beq_eq_true h⟩
theorem zk_getSv (C : zCx p R s m args meth c0 D cl tys z X Ts own cc nL nm) {len : List Nat} {byt : List (List Int)} (hT : ∀ U H, X U H → zTx o z len byt U H) {pc idx : Nat} (hd : decode cc pc = .ok (.getfield idx, 3)) (hl : Cond.fieldLink own idx "java/lang/String" "value" "[B" ∈ Ts) : zOp p l e R s m args below meth c0 Q D cl tys o z X Ts prog ws0 nL cc ret (pc) (zo_getSv (pc + 3)) := by
  intro call rt go c _ _ hgo hs fv hfv ls vst H locs ws S
  unfold zo_getSv at hs
  split at hs
  · split at hs
    · rename_i hk
      obtain ⟨i, hi, rfl⟩ := zeven hk
      obtain ⟨v, t, rfl, h1, h2⟩ := zr2_cons S.2.1
      have hv := h1.1 (by omega)
      subst hv
      have hE := (hT s s.heap C.2.2.2.2.2.2.2.1 i hi).2.2.1
      exact vk_getf C.1 C.2.1 hE S.2.2.2.2.2.1 C.2.2.2.1 (C.2.2.2.2.1 _ hl) (fun _ h => h) hd (hgo _ _ hs fv hfv ls _ H locs ws (zSat_st S ⟨⟨fun _ => rfl, Or.inr ⟨_, rfl⟩⟩, h2⟩))
    · cases hs
  · cases hs
theorem zk_getSc (C : zCx p R s m args meth c0 D cl tys z X Ts own cc nL nm) {len : List Nat} {byt : List (List Int)} (hT : ∀ U H, X U H → zTx o z len byt U H) {pc idx : Nat} (hd : decode cc pc = .ok (.getfield idx, 3)) (hl : Cond.fieldLink own idx "java/lang/String" "coder" "B" ∈ Ts) : zOp p l e R s m args below meth c0 Q D cl tys o z X Ts prog ws0 nL cc ret (pc) (zo_getSc (pc + 3)) := by
  intro call rt go c _ _ hgo hs fv hfv ls vst H locs ws S
  unfold zo_getSc at hs
  split at hs
  · split at hs
    · rename_i hk
      obtain ⟨i, hi, rfl⟩ := zeven hk
      obtain ⟨v, t, rfl, h1, h2⟩ := zr2_cons S.2.1
      have hv := h1.1 (by omega)
      subst hv
      have hE := (hT s s.heap C.2.2.2.2.2.2.2.1 i hi).2.1
      exact vk_getf C.1 C.2.1 hE S.2.2.2.2.2.1 C.2.2.2.1 (C.2.2.2.2.1 _ hl) (fun _ h => h) hd (hgo _ _ hs fv hfv ls _ H locs ws (zSat_st S ⟨⟨0, rfl, ⟨Int.le_refl _, Int.le_refl _⟩, trivial⟩, h2⟩))
    · cases hs
  · cases hs
theorem zk_lenS (C : zCx p R s m args meth c0 D cl tys z X Ts own cc nL nm) {len : List Nat} {byt : List (List Int)} (hT : ∀ U H, X U H → zTx o z len byt U H) {pc : Nat} (hd : decode cc pc = .ok (.arraylength, 1)) : zOp p l e R s m args below meth c0 Q D cl tys o z X Ts prog ws0 nL cc ret (pc) (zo_lenS (pc + 1) len) := by
  intro call rt go c _ _ hgo hs fv hfv ls vst H locs ws S
  unfold zo_lenS at hs
  split at hs
  · split at hs
    · rename_i hk
      obtain ⟨i, hi, rfl⟩ := zodd hk
      split at hs
      · rename_i n hn
        rw [zget_eq, show (2 * i + 1) / 2 = i by omega] at hn
        obtain ⟨v, t, rfl, h1, h2⟩ := zr2_cons S.2.1
        have hv := h1.1 (by omega)
        subst hv
        obtain ⟨n', bs, q1, q2, q3, q4, q5, hE⟩ := (hT s s.heap C.2.2.2.2.2.2.2.1 i hi).2.2.2
        rw [hn] at q1
        cases q1
        refine va_tlen C.1 C.2.1 hE S.2.2.2.2.2.1 rfl hd (hgo _ _ hs fv hfv ls _ H locs ws (zSat_st S ⟨⟨_, rfl, ?_, trivial⟩, h2⟩))
        have e : (Int32.ofNat n).toInt = (n : Int) := nI_toInt (by omega)
        unfold zmem
        rw [e]
        exact ⟨Int.le_refl _, Int.le_refl _⟩
      · cases hs
    · cases hs
  · cases hs
theorem zk_baldS (C : zCx p R s m args meth c0 D cl tys z X Ts own cc nL nm) {len : List Nat} {byt : List (List Int)} (hT : ∀ U H, X U H → zTx o z len byt U H) {pc : Nat} (hd : decode cc pc = .ok (.baload, 1)) : zOp p l e R s m args below meth c0 Q D cl tys o z X Ts prog ws0 nL cc ret (pc) (zo_baldS (pc + 1) byt) := by
  intro call rt go c _ _ hgo hs fv hfv ls vst H locs ws S
  unfold zo_baldS at hs
  split at hs
  · rename_i al pi k st h
    split at hs
    · rename_i hk
      simp only [Bool.and_eq_true] at hk
      obtain ⟨hk, k1, k2⟩ := hk
      obtain ⟨i, hi, rfl⟩ := zodd hk
      split at hs
      · rename_i bs hbs
        rw [zget_eq, show (2 * i + 1) / 2 = i by omega] at hbs
        split at hs
        · rename_i b hb
          rw [zget_eq] at hb
          obtain ⟨w, t1, rfl, g1, hh1⟩ := zr2_cons S.2.1
          obtain ⟨v, t, rfl, h1, h2⟩ := zr2_cons hh1
          obtain ⟨x, rfl, hx, -⟩ := zint g1
          have hv := h1.1 (by omega)
          subst hv
          obtain ⟨n', bs', q1, q2, q3, q4, q5, hE⟩ := (hT s s.heap C.2.2.2.2.2.2.2.1 i hi).2.2.2
          rw [hbs] at q2
          cases q2
          obtain ⟨c1, c2⟩ := zclamp hx k1 k2
          have hl := (List.getElem?_eq_some_iff.mp hb).1
          have hin : vp_in x n' := by
            rintro (q | q)
            · exact c1 q
            · rw [c2] at q; omega
          have hmem : b ∈ bs := List.mem_of_getElem? hb
          refine va_tb C.1 C.2.1 hE S.2.2.2.2.2.1 hin (v := .int (Int32.ofInt b)) ?_ hd (hgo _ _ hs fv hfv ls _ H locs ws (zSat_st S ⟨⟨_, rfl, zex (q5 b hmem), trivial⟩, h2⟩))
          rw [c2, List.getD_eq_getElem?_getD, hb]
          rfl
        · cases hs
      · cases hs
    · cases hs
  · cases hs
/-- pushing a value that is one of a kind -/
theorem zk_pushE (C : zCx p R s m args meth c0 D cl tys z X Ts own cc nL nm) {pc nx : Nat} {a : zAV} (row : ∃ v : Value, (∀ (fv : Nat → Int32) ad, zg (zwith o fv) ad a v) ∧ ∀ (H : Heap) (locs : List Loc) (cells slots : Nat) (ls : Array Slot) (rest : List Value), va_S (zA z) s.heap H locs → W p l e R s m args below meth c0 H locs cells slots Q (F0 m nx ls (v :: rest)) → W p l e R s m args below meth c0 H locs cells slots Q (F0 m pc ls rest)) : zOp p l e R s m args below meth c0 Q D cl tys o z X Ts prog ws0 nL cc ret (pc) (zo_push nx a) := by
  obtain ⟨v, hv, row⟩ := row
  intro call rt go c _ _ hgo hs fv hfv ls vst H locs ws S
  unfold zo_push at hs
  split at hs
  exact row _ _ _ _ _ _ S.2.2.2.2.2.1 (hgo _ _ hs fv hfv ls _ H locs ws (zSat_st S ⟨hv _ _, S.2.1⟩))
theorem zgood (hgood : ∀ w ∈ Ts, goodWord w = true) {w0 : Cond} (hc : w0 ∈ Ts) : GoodIn Ts (w0 :: Ts) := by
  intro w hw
  have hm : w ∈ Ts := by
    rcases List.mem_cons.mp hw with rfl | h
    · exact hc
    · exact h
  exact ⟨hm, good_of_word (hgood w hm)⟩
theorem zrecv_ok {ci : Nat} {Cn : String} {T : u_T} {N : Nat} {U : State} (hK : va_K D cl tys U) (hcl : cl[ci]? = some (Cn, T, N)) (as : List zAV) (h : zH) (ws : va_W) (vs : List Value) (H : Heap) (hr : zrecv ci as h = true) (hw : zwr cl tys o h ws) (hP : va_P D cl ws H) (hv : zr2 (zgH o (zad ws)) as vs) : ∃ b As, vs = .ref b :: As ∧ ∃ cell : Cell, H[b]? = some cell ∧ cell.vm.isStatics = false ∧ U.vm.findClass Cn = some cell.cls := by
  unfold zrecv at hr
  split at hr
  · split at hr
    · rename_i hc
      have he := Nat.eq_of_beq_eq_true hr
      subst he
      obtain ⟨v, t, rfl, ⟨a, ha, rfl⟩, -⟩ := zr2_cons hv
      obtain ⟨e0, hw1, vs1, rfl, -⟩ := zwr_at hw ha hc
      exact ⟨a, t, rfl, va_recv hK hP hcl hw1⟩
    · cases hr
  · cases hr
theorem zrecvI_ok (as : List zAV) (h : zH) (ws : va_W) (vs : List Value) (H : Heap) (hr : zrecvI as h = true) (hw : zwr cl tys o h ws) (hP : va_P D cl ws H) (hv : zr2 (zgH o (zad ws)) as vs) : ∃ b As, vs = .ref b :: As := by
  unfold zrecvI at hr
  split at hr
  · obtain ⟨v, t, rfl, ⟨a, ha, rfl⟩, -⟩ := zr2_cons hv
    exact ⟨a, t, rfl⟩
  · cases hr
abbrev zPar (y : MethodName) (n : Nat) : Prop := y.cls ≠ "java/lang/invoke/MethodHandle" ∧ y.cls ≠ "java/lang/invoke/VarHandle" ∧ (parseMethodDescriptor y.desc).map (fun d => d.parameters.length) = some n
theorem zk_callV (C : zCx p R s m args meth c0 D cl tys z X Ts own cc nL nm) (hX : zXok X z) (hgood : ∀ w ∈ Ts, goodWord w = true) {pc mi n mc ms bc bs ci idx : Nat} {mr : zM} {T : u_T} {N : Nat} (hbc : R.cells = bc) (hbs : R.slots = bs) (hm : zget prog mi = some mr) (hmc : mr.2.2.2.2.1 = mc) (hms : mr.2.2.2.2.2.1 = ms) (hcl : cl[ci]? = some (mr.1.cls, T, N)) (hcode : Cond.code mr.1 mr.2.1 mr.2.2.1 mr.2.2.2.1 ∈ Ts) (hl : Cond.methodLink own idx mr.1 ∈ Ts) (hin : Cond.instanceMethod mr.1 ∈ Ts) (hsel : Cond.selects mr.1.cls mr.1 mr.1 ∈ Ts) (hini : Cond.initialized mr.1.cls ∈ Ts) (hpar : zPar mr.1 n) (hd : decode cc pc = .ok (.invokevirtual idx, 3)) : zOp p l e R s m args below meth c0 Q D cl tys o z X Ts prog ws0 nL cc ret (pc) (zo_call (pc + 3) mi (n + 1) mc ms bc bs (zrecv ci)) := by
  refine zk_call C hX (Rc := fun vs H => ∃ b As, vs = .ref b :: As ∧ ∃ cell : Cell, H[b]? = some cell ∧ cell.vm.isStatics = false ∧ s.vm.findClass mr.1.cls = some cell.cls) hbc hbs hm hmc hms (fun as h ws vs H _ _ => zrecv_ok C.2.2.2.2.2.1 hcl as h ws vs H) ?_
  intro H locs cells slots ls As rest fr lo Pc Qc hM f1 f2 hbl hpc hrc hlen hsz hroom hf
  obtain ⟨b, As', rfl, hcell⟩ := hrc
  have hst : (Value.ref b :: As').reverse ++ rest = As'.reverse ++ .ref b :: rest := by simp
  rw [hst] at hroom ⊢
  subst hmc
  subst hms
  exact va_runV (As := As') ⟨C.1, C.2.1, C.2.2.1, C.2.2.2.1, C.2.2.2.2.1⟩ hM ⟨callB_of n C.2.2.2.2.1 (zgood hgood hcode) rfl rfl rfl (C.2.2.2.2.1 _ hini) (C.2.2.2.2.1 _ hl) hpar ⟨f1, f2⟩, C.2.2.2.2.1 _ hin, C.2.2.2.2.1 _ hsel⟩ ⟨hbl, hcell, hpc⟩ rfl (by simpa using hlen) hsz rfl hroom hd hf
theorem zk_callVN (C : zCx p R s m args meth c0 D cl tys z X Ts own cc nL nm) (hX : zXok X z) (hgood : ∀ w ∈ Ts, goodWord w = true) {pc mi n mc ms bc bs ci idx : Nat} {mr : zM} {host : String} {T : u_T} {N : Nat} (hbc : R.cells = bc) (hbs : R.slots = bs) (hm : zget prog mi = some mr) (hmc : mr.2.2.2.2.1 = mc) (hms : mr.2.2.2.2.2.1 = ms) (hcl : cl[ci]? = some (mr.1.cls, T, N)) (hcode : Cond.code mr.1 mr.2.1 mr.2.2.1 mr.2.2.2.1 ∈ Ts) (hl : ∀ U H, X U H → va_Nw (.methodLinkNest own idx mr.1 host) U) (hin : Cond.instanceMethod mr.1 ∈ Ts) (hsel : Cond.selects mr.1.cls mr.1 mr.1 ∈ Ts) (hini : Cond.initialized mr.1.cls ∈ Ts) (hpar : zPar mr.1 n) (hd : decode cc pc = .ok (.invokevirtual idx, 3)) : zOp p l e R s m args below meth c0 Q D cl tys o z X Ts prog ws0 nL cc ret (pc) (zo_call (pc + 3) mi (n + 1) mc ms bc bs (zrecv ci)) := by
  refine zk_call C hX (Rc := fun vs H => ∃ b As, vs = .ref b :: As ∧ ∃ cell : Cell, H[b]? = some cell ∧ cell.vm.isStatics = false ∧ s.vm.findClass mr.1.cls = some cell.cls) hbc hbs hm hmc hms (fun as h ws vs H _ _ => zrecv_ok C.2.2.2.2.2.1 hcl as h ws vs H) ?_
  intro H locs cells slots ls As rest fr lo Pc Qc hM f1 f2 hbl hpc hrc hlen hsz hroom hf
  obtain ⟨b, As', rfl, hcell⟩ := hrc
  have hst : (Value.ref b :: As').reverse ++ rest = As'.reverse ++ .ref b :: rest := by simp
  rw [hst] at hroom ⊢
  subst hmc
  subst hms
  exact va_runVN (As := As') ⟨C.1, C.2.1, C.2.2.1, C.2.2.2.1, C.2.2.2.2.1⟩ hM ⟨va_cnB n C.2.2.2.2.1 (zgood hgood hcode) rfl rfl rfl (hl _ _ C.2.2.2.2.2.2.2.1) (C.2.2.2.2.1 _ hini) hpar ⟨f1, f2⟩, C.2.2.2.2.1 _ hin, C.2.2.2.2.1 _ hsel⟩ ⟨hbl, hcell, hpc⟩ rfl (by simpa using hlen) hsz rfl hroom hd hf
theorem zk_callI (C : zCx p R s m args meth c0 D cl tys z X Ts own cc nL nm) (hX : zXok X z) (hgood : ∀ w ∈ Ts, goodWord w = true) {pc mi n mc ms bc bs idx : Nat} {mr : zM} (hbc : R.cells = bc) (hbs : R.slots = bs) (hm : zget prog mi = some mr) (hmc : mr.2.2.2.2.1 = mc) (hms : mr.2.2.2.2.2.1 = ms) (hret : mr.2.2.2.1 = none) (hcode : Cond.code mr.1 mr.2.1 mr.2.2.1 mr.2.2.2.1 ∈ Ts) (hl : Cond.methodLink own idx mr.1 ∈ Ts) (hin : Cond.instanceMethod mr.1 ∈ Ts) (hini : Cond.initialized mr.1.cls ∈ Ts) (hy1 : mr.1.name = "<init>") (hpar : zPar mr.1 n) (hd : decode cc pc = .ok (.invokespecial idx, 3)) : zOp p l e R s m args below meth c0 Q D cl tys o z X Ts prog ws0 nL cc ret (pc) (zo_call (pc + 3) mi (n + 1) mc ms bc bs zrecvI) := by
  refine zk_call C hX (Rc := fun vs H => ∃ b As, vs = .ref b :: As) hbc hbs hm hmc hms (fun as h ws vs H _ _ => zrecvI_ok as h ws vs H) ?_
  intro H locs cells slots ls As rest fr lo Pc Qc hM f1 f2 hbl hpc hrc hlen hsz hroom hf
  obtain ⟨b, As', rfl⟩ := hrc
  have hst : (Value.ref b :: As').reverse ++ rest = As'.reverse ++ .ref b :: rest := by simp
  rw [hst] at hroom ⊢
  subst hmc
  subst hms
  rw [hret] at hM hcode
  exact va_runI (As := As') ⟨C.1, C.2.1, C.2.2.1, C.2.2.2.1, C.2.2.2.2.1⟩ hM ⟨callB_of n C.2.2.2.2.1 (zgood hgood hcode) rfl rfl rfl (C.2.2.2.2.1 _ hini) (C.2.2.2.2.1 _ hl) hpar ⟨f1, f2⟩, hy1, C.2.2.2.2.1 _ hin⟩ ⟨hbl, hpc⟩ rfl (by simpa using hlen) hsz rfl hroom hd hf
theorem zk_callIN (C : zCx p R s m args meth c0 D cl tys z X Ts own cc nL nm) (hX : zXok X z) (hgood : ∀ w ∈ Ts, goodWord w = true) {pc mi n mc ms bc bs idx : Nat} {mr : zM} {host : String} (hbc : R.cells = bc) (hbs : R.slots = bs) (hm : zget prog mi = some mr) (hmc : mr.2.2.2.2.1 = mc) (hms : mr.2.2.2.2.2.1 = ms) (hret : mr.2.2.2.1 = none) (hcode : Cond.code mr.1 mr.2.1 mr.2.2.1 mr.2.2.2.1 ∈ Ts) (hl : ∀ U H, X U H → va_Nw (.methodLinkNest own idx mr.1 host) U) (hin : Cond.instanceMethod mr.1 ∈ Ts) (hini : Cond.initialized mr.1.cls ∈ Ts) (hy1 : mr.1.name = "<init>") (hpar : zPar mr.1 n) (hd : decode cc pc = .ok (.invokespecial idx, 3)) : zOp p l e R s m args below meth c0 Q D cl tys o z X Ts prog ws0 nL cc ret (pc) (zo_call (pc + 3) mi (n + 1) mc ms bc bs zrecvI) := by
  refine zk_call C hX (Rc := fun vs H => ∃ b As, vs = .ref b :: As) hbc hbs hm hmc hms (fun as h ws vs H _ _ => zrecvI_ok as h ws vs H) ?_
  intro H locs cells slots ls As rest fr lo Pc Qc hM f1 f2 hbl hpc hrc hlen hsz hroom hf
  obtain ⟨b, As', rfl⟩ := hrc
  have hst : (Value.ref b :: As').reverse ++ rest = As'.reverse ++ .ref b :: rest := by simp
  rw [hst] at hroom ⊢
  subst hmc
  subst hms
  rw [hret] at hM hcode
  exact va_runIN (As := As') ⟨C.1, C.2.1, C.2.2.1, C.2.2.2.1, C.2.2.2.2.1⟩ hM ⟨va_cnB n C.2.2.2.2.1 (zgood hgood hcode) rfl rfl rfl (hl _ _ C.2.2.2.2.2.2.2.1) (C.2.2.2.2.1 _ hini) hpar ⟨f1, f2⟩, hy1, C.2.2.2.2.1 _ hin⟩ ⟨hbl, hpc⟩ rfl (by simpa using hlen) hsz rfl hroom hd hf
theorem zk_callS (C : zCx p R s m args meth c0 D cl tys z X Ts own cc nL nm) (hX : zXok X z) (hgood : ∀ w ∈ Ts, goodWord w = true) {pc mi n mc ms bc bs idx : Nat} {mr : zM} (hbc : R.cells = bc) (hbs : R.slots = bs) (hm : zget prog mi = some mr) (hmc : mr.2.2.2.2.1 = mc) (hms : mr.2.2.2.2.2.1 = ms) (hcode : Cond.code mr.1 mr.2.1 mr.2.2.1 mr.2.2.2.1 ∈ Ts) (hl : Cond.methodLink own idx mr.1 ∈ Ts) (hst : Cond.static mr.1 ∈ Ts) (hini : Cond.initialized mr.1.cls ∈ Ts) (hpar : zPar mr.1 n) (hd : decode cc pc = .ok (.invokestatic idx, 3)) : zOp p l e R s m args below meth c0 Q D cl tys o z X Ts prog ws0 nL cc ret (pc) (zo_call (pc + 3) mi n mc ms bc bs zrecv0) := by
  refine zk_call C hX (Rc := fun _ _ => True) hbc hbs hm hmc hms (fun _ _ _ _ _ _ _ _ _ _ _ => trivial) ?_
  intro H locs cells slots ls As rest fr lo Pc Qc hM f1 f2 hbl hpc hrc hlen hsz hroom hf
  subst hmc
  subst hms
  exact va_runS (As := As) ⟨C.1, C.2.1, C.2.2.1, C.2.2.2.1, C.2.2.2.2.1⟩ hM ⟨callB_of n C.2.2.2.2.1 (zgood hgood hcode) rfl rfl rfl (C.2.2.2.2.1 _ hini) (C.2.2.2.2.1 _ hl) hpar ⟨f1, f2⟩, C.2.2.2.2.1 _ hst⟩ ⟨hbl, hpc⟩ rfl hlen hsz rfl hroom hd hf
theorem zk_callSN (C : zCx p R s m args meth c0 D cl tys z X Ts own cc nL nm) (hX : zXok X z) (hgood : ∀ w ∈ Ts, goodWord w = true) {pc mi n mc ms bc bs idx : Nat} {mr : zM} {host : String} (hbc : R.cells = bc) (hbs : R.slots = bs) (hm : zget prog mi = some mr) (hmc : mr.2.2.2.2.1 = mc) (hms : mr.2.2.2.2.2.1 = ms) (hcode : Cond.code mr.1 mr.2.1 mr.2.2.1 mr.2.2.2.1 ∈ Ts) (hl : ∀ U H, X U H → va_Nw (.methodLinkNest own idx mr.1 host) U) (hst : Cond.static mr.1 ∈ Ts) (hini : Cond.initialized mr.1.cls ∈ Ts) (hpar : zPar mr.1 n) (hd : decode cc pc = .ok (.invokestatic idx, 3)) : zOp p l e R s m args below meth c0 Q D cl tys o z X Ts prog ws0 nL cc ret (pc) (zo_call (pc + 3) mi n mc ms bc bs zrecv0) := by
  refine zk_call C hX (Rc := fun _ _ => True) hbc hbs hm hmc hms (fun _ _ _ _ _ _ _ _ _ _ _ => trivial) ?_
  intro H locs cells slots ls As rest fr lo Pc Qc hM f1 f2 hbl hpc hrc hlen hsz hroom hf
  subst hmc
  subst hms
  exact va_runSN (As := As) ⟨C.1, C.2.1, C.2.2.1, C.2.2.2.1, C.2.2.2.2.1⟩ hM ⟨va_cnB n C.2.2.2.2.1 (zgood hgood hcode) rfl rfl rfl (hl _ _ C.2.2.2.2.2.2.2.1) (C.2.2.2.2.1 _ hini) hpar ⟨f1, f2⟩, C.2.2.2.2.1 _ hst, trivial⟩ ⟨hbl, hpc⟩ rfl hlen hsz rfl hroom hd hf
/-- a method of a constant text -/
theorem zk_callT (C : zCx p R s m args meth c0 D cl tys z X Ts own cc nL nm) (hX : zXok X z) (hgood : ∀ w ∈ Ts, goodWord w = true) {len : List Nat} {byt : List (List Int)} (hT : ∀ U H, X U H → zTx o z len byt U H) {pc mi n mc ms bc bs idx : Nat} {mr : zM} (hbc : R.cells = bc) (hbs : R.slots = bs) (hm : zget prog mi = some mr) (hmc : mr.2.2.2.2.1 = mc) (hms : mr.2.2.2.2.2.1 = ms) (hcls : mr.1.cls = "java/lang/String") (hcode : Cond.code mr.1 mr.2.1 mr.2.2.1 mr.2.2.2.1 ∈ Ts) (hl : Cond.methodLink own idx mr.1 ∈ Ts) (hin : Cond.instanceMethod mr.1 ∈ Ts) (hsel : Cond.selects mr.1.cls mr.1 mr.1 ∈ Ts) (hini : Cond.initialized mr.1.cls ∈ Ts) (hpar : zPar mr.1 n) (hd : decode cc pc = .ok (.invokevirtual idx, 3)) : zOp p l e R s m args below meth c0 Q D cl tys o z X Ts prog ws0 nL cc ret (pc) (zo_call (pc + 3) mi (n + 1) mc ms bc bs zrecvS) := by
  refine zk_call C hX (Rc := fun vs H => ∃ b As, vs = .ref b :: As ∧ ∃ cell : Cell, H[b]? = some cell ∧ cell.vm.isStatics = false ∧ s.vm.findClass mr.1.cls = some cell.cls) hbc hbs hm hmc hms ?_ ?_
  · intro as h ws vs H locs hS hr hw hP hv
    unfold zrecvS at hr
    split at hr
    · obtain ⟨i, hi, rfl⟩ := zeven hr
      obtain ⟨v, t, rfl, h1, -⟩ := zr2_cons hv
      have hv := h1.1 (by omega)
      subst hv
      obtain ⟨cell, g1, g2, g3, -⟩ := (hT s s.heap C.2.2.2.2.2.2.2.1 i hi).1.kept hS.2.1
      exact ⟨_, t, rfl, cell, g1, g2, by rw [hcls]; exact g3⟩
    · cases hr
  · intro H locs cells slots ls As rest fr lo Pc Qc hM f1 f2 hbl hpc hrc hlen hsz hroom hf
    obtain ⟨b, As', rfl, hcell⟩ := hrc
    have hst : (Value.ref b :: As').reverse ++ rest = As'.reverse ++ .ref b :: rest := by simp
    rw [hst] at hroom ⊢
    subst hmc
    subst hms
    exact va_runV (As := As') ⟨C.1, C.2.1, C.2.2.1, C.2.2.2.1, C.2.2.2.2.1⟩ hM ⟨callB_of n C.2.2.2.2.1 (zgood hgood hcode) rfl rfl rfl (C.2.2.2.2.1 _ hini) (C.2.2.2.2.1 _ hl) hpar ⟨f1, f2⟩, C.2.2.2.2.1 _ hin, C.2.2.2.2.1 _ hsel⟩ ⟨hbl, hcell, hpc⟩ rfl (by simpa using hlen) hsz rfl hroom hd hf
end ZKINDS
/-! ROWS OF A TABLE -/
def zRow (P : Nat → zSem → Prop) : Nat → List (Option zSem) → Prop
  | _, [] => True
  | pc, none :: t => zRow P (pc + 1) t
  | pc, some s :: t => P pc s ∧ zRow P (pc + 1) t
def zRows (P : Nat → zSem → Prop) : Nat → zCode → Prop
  | _, [] => True
  | pc, r :: t => zRow P pc r ∧ zRows P (pc + 16) t
theorem zRow_get {P : Nat → zSem → Prop} : ∀ {r : List (Option zSem)} {pc : Nat} (i : Nat) {s : zSem}, zRow P pc r → r[i]? = some (some s) → P (pc + i) s
  | [], _, _, _, _, h => by simp at h
  | none :: t, pc, 0, s, q, h => by simp at h
  | some a :: t, pc, 0, s, q, h => by
    have h : a = s := by simpa using h
    subst h
    exact q.1
  | none :: t, pc, i + 1, s, q, h => by
    have k := zRow_get (pc := pc + 1) i (s := s) q h
    rwa [show pc + 1 + i = pc + (i + 1) by omega] at k
  | some a :: t, pc, i + 1, s, q, h => by
    have k := zRow_get (pc := pc + 1) i (s := s) q.2 h
    rwa [show pc + 1 + i = pc + (i + 1) by omega] at k
theorem zRows_at {P : Nat → zSem → Prop} : ∀ {c : zCode} {pc : Nat} (j : Nat) {r : List (Option zSem)}, zRows P pc c → c[j]? = some r → zRow P (pc + 16 * j) r
  | [], _, _, _, _, h => by simp at h
  | a :: t, pc, 0, r, q, h => by
    have h : a = r := by simpa using h
    subst h
    exact q.1
  | a :: t, pc, j + 1, r, q, h => by
    have k := zRows_at (pc := pc + 16) j (r := r) q.2 h
    rwa [show pc + 16 + 16 * j = pc + 16 * (j + 1) by omega] at k
theorem zRows_get {P : Nat → zSem → Prop} {c : zCode} (h : zRows P 0 c) {pc : Nat} {s : zSem} (hs : zrget c pc = some (some s)) : P pc s := by
  unfold zrget at hs
  split at hs
  · cases hs
  · rename_i r hr
    rw [zget_eq] at hr hs
    have k := zRow_get (pc % 16) (zRows_at (pc / 16) h hr) hs
    rwa [show 0 + 16 * (pc / 16) + pc % 16 = pc by omega] at k
