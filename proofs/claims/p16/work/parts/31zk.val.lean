/-! VALUES: methods with a fact about their answer and the world behind them -/
def zQV (D : va_G) (cl : List vw_C) (tys : List (ClassId × FieldType)) (o : zO) (z : Nat) (ws : va_W) (h2 : zH) (Post : Value → va_W → Prop) : Array Value → State → Outcome → State → Prop := fun _ st oc t =>
  (∃ (v : Value) (ws' : va_W), oc = .returned (some v) ∧ zcg h2.2.2 ws ws' ∧ zwr cl tys o h2 ws' ∧ va_P D cl ws' t.heap ∧ va_D (zA z) ws' ∧ Post v ws') ∧ va_F (zA z) st t
def zMetV (l : Launch) (D : va_G) (cl : List vw_C) (tys : List (ClassId × FieldType)) (o : zO) (z : Nat) (X : State → Heap → Prop) (Ts : List Cond) (mr : zM) (fr lo : Nat) (h h2 : zH) (ws : va_W) (vs : List Value) (Post : Value → va_W → Prop) : Prop :=
  Met l mr.1 (.code mr.1 mr.2.1 mr.2.2.1 mr.2.2.2.1 :: Ts) { frames := fr, cells := mr.2.2.2.2.1, slots := mr.2.2.2.2.2.1, locals := lo } (va_Pc vs (zSt D cl tys o z X h ws)) (zQV D cl tys o z ws h2 Post) mr.2.2.2.2.1 mr.2.2.2.2.2.1 (zA z)
section ZVAL
variable {p : Program} {l : Launch} {e : Env} {R : Room} {s : State} {m : MethodId} {args : Array Value} {below : List Frame} {meth : Method} {c0 : Code} {Q : State → Prop} {D : va_G} {cl : List vw_C} {tys : List (ClassId × FieldType)} {o : zO} {z : Nat} {X : State → Heap → Prop} {Ts : List Cond} {prog : List zM} {ws0 : va_W} {nL : Nat} {own : String} {cc : ByteArray} {ret : Option FieldType} {nm : String}
theorem zMetV_zMet {mr : zM} {fr lo : Nat} {h h2 : zH} {as : List zAV} {r : zAV} (hM : zMet l D cl tys o z X Ts mr fr lo h as (zkin (some r) h2)) {ws : va_W} {vs : List Value} (hvs : zr2 (zgH o (zad ws)) as vs) : zMetV l D cl tys o z X Ts mr fr lo h h2 ws vs (fun v ws' => zgH o (zad ws') r v) := by
  intro p e a1 a2 a3 s m args below b1 b2 b3 b4
  obtain ⟨n, oc, d1, d2, d3, ⟨⟨⟨r', v, h', ws', f1, f2, f3, f4, f5, f6, f7⟩, g1⟩, g2⟩⟩ := hM ws vs hvs p e a1 a2 a3 s m args below b1 b2 b3 b4
  obtain ⟨k1, k2, k3⟩ := zkin_ok f7 f2
  cases v with
  | none => exact k1.elim
  | some v => exact ⟨n, oc, d1, d2, d3, ⟨⟨v, ws', f1, zsm_ok k3 f3, zhl_ok k2 f4, f5, f6, k1⟩, g1⟩, g2⟩
theorem zMetV_mono {mr : zM} {fr lo : Nat} {h h2 : zH} {ws : va_W} {vs : List Value} {Post Post' : Value → va_W → Prop} (hM : zMetV l D cl tys o z X Ts mr fr lo h h2 ws vs Post) (hp : ∀ v ws', zcg h2.2.2 ws ws' → Post v ws' → Post' v ws') : zMetV l D cl tys o z X Ts mr fr lo h h2 ws vs Post' := by
  intro p e a1 a2 a3 s m args below b1 b2 b3 b4
  obtain ⟨n, oc, d1, d2, d3, ⟨⟨⟨v, ws', f1, f2, f3, f4, f5, f6⟩, g1⟩, g2⟩⟩ := hM p e a1 a2 a3 s m args below b1 b2 b3 b4
  exact ⟨n, oc, d1, d2, d3, ⟨⟨v, ws', f1, f2, f3, f4, f5, hp _ _ f2 f6⟩, g1⟩, g2⟩
/-- a method from its first instruction on -/
theorem zMetV_of {mr : zM} {f lo : Nat} {h h2 : zH} {ws : va_W} {vs : List Value} {Post : Value → va_W → Prop} (hy : plainName mr.1.cls = true) (k0 : 1 ≤ f) (k1 : 200 ≤ lo) (k2 : (lg_sl vs).length ≤ mr.2.2.1) (hc0 : mr.2.2.2.2.1 = 0) (hs0 : mr.2.2.2.2.2.1 = 0) {ty : FieldType} (hty : mr.2.2.2.1 = some ty) (H : ∀ (p : Program) (e : Env) (s : State) (m : MethodId) (below : List Frame) (meth : Method) (c0 : Code) (Q : State → Prop) (ls : Array Slot), zCx p { frames := f, cells := mr.2.2.2.2.1, slots := mr.2.2.2.2.2.1, locals := lo } s m vs.toArray meth c0 D cl tys z X Ts mr.1.cls mr.2.1 mr.2.2.1 mr.1.name → zwr cl tys o h ws → va_P D cl ws s.heap → va_D (zA z) ws → (∀ (pc : Nat) (ls : Array Slot) (x : Int32) (H : Heap) (locs : List Loc) (ws' : va_W), narrow ty (.int x) = .int x → decode mr.2.1 pc = .ok (.ireturn, 1) → zcg h2.2.2 ws ws' → zwr cl tys o h2 ws' → va_P D cl ws' H → va_D (zA z) ws' → va_S (zA z) s.heap H locs → Post (.int x) ws' → W p l e { frames := f, cells := mr.2.2.2.2.1, slots := mr.2.2.2.2.2.1, locals := lo } s m vs.toArray below meth c0 H locs 0 0 Q (F0 m pc ls [.int x])) → lv_has ls mr.2.2.1 (lv_args 0 vs) → W p l e { frames := f, cells := mr.2.2.2.2.1, slots := mr.2.2.2.2.2.1, locals := lo } s m vs.toArray below meth c0 s.heap [] 0 0 Q (F0 m 0 ls [])) : zMetV l D cl tys o z X Ts mr f lo h h2 ws vs Post := by
  refine Met.ofW (cc := mr.2.1) (maxL := mr.2.2.1) (ret := mr.2.2.2.1) hy rfl ?_
  intro p' e' s' m' args' below' meth' c' s₁ B hml hv
  obtain ⟨rfl, v1, v2, v3, v4, v5, v6⟩ := hv
  have hts := atoms_spec B.pre
  have CX' : zCx p' { frames := f, cells := mr.2.2.2.2.1, slots := mr.2.2.2.2.2.1, locals := lo } s' m' vs.toArray meth' c' D cl tys z X Ts mr.1.cls mr.2.1 mr.2.2.1 mr.1.name := ⟨B.exec, B.bytes, hml, findClass_of_methodNamed B.named, fun w hw => hts w (List.mem_cons_of_mem _ hw), v4, (name_of_methodNamed B.named B.method).1, v5, v6, k0, k1⟩
  have hl := lv_entry vs (n := mr.2.2.1) k2
  rw [lg_entry_eq]
  refine H p' e' s' m' below' meth' c' _ _ CX' v1 v2 v3 ?_ hl
  intro pc ls x H locs ws' q1 q2 q3 q4 q5 q6 q7 q8
  have hq : ∀ t : State, t.heap = H → s'.WarmedH t.vm → zQV D cl tys o z ws h2 Post vs.toArray s' (.returned (some (.int x))) t := fun t ht _ => ⟨⟨.int x, ws', rfl, q3, q4, by rw [ht]; exact q5, q6, q8⟩, q7.F ht⟩
  refine W.widen (k := mr.2.2.2.2.1) (n := mr.2.2.2.2.2.1) (by omega) (by omega) ?_
  exact W.zret B.exec B.bytes (B.returns.trans hty) q1 hq q7.2.2 q2 B.notSynchronized
/-- a call, by what is known of this call -/
theorem zv_callV (C : zCx p R s m args meth c0 D cl tys z X Ts own cc nL nm) (hX : zXok X z) (hgood : ∀ w ∈ Ts, goodWord w = true) {pc n ci idx fr lo : Nat} {mr : zM} {T : u_T} {N : Nat} {h h2 : zH} {ws : va_W} {b : Nat} {As rest : List Value} {Post : Value → va_W → Prop} (hM : zMetV l D cl tys o z X Ts mr fr lo h h2 ws (.ref b :: As) Post) (hc0 : mr.2.2.2.2.1 = 0) (hs0 : mr.2.2.2.2.2.1 = 0) (hF : fr + 1 ≤ R.frames) (hL : 8 + (mr.2.2.1 + 11) + lo ≤ R.locals) (hcl : cl[ci]? = some (mr.1.cls, T, N)) (hcode : Cond.code mr.1 mr.2.1 mr.2.2.1 mr.2.2.2.1 ∈ Ts) (hl : Cond.methodLink own idx mr.1 ∈ Ts) (hin : Cond.instanceMethod mr.1 ∈ Ts) (hsel : Cond.selects mr.1.cls mr.1 mr.1 ∈ Ts) (hini : Cond.initialized mr.1.cls ∈ Ts) (hpar : zPar mr.1 n) (hd : decode cc pc = .ok (.invokevirtual idx, 3)) (hlen : As.length = n) {H : Heap} {locs : List Loc} {cells slots : Nat} {ls : Array Slot} {k : Nat} {fs : List Value} (he : ws[k]? = some (b, .inr (ci, fs))) (hw : zwr cl tys o h ws) (hP : va_P D cl ws H) (hD : va_D (zA z) ws) (hS : va_S (zA z) s.heap H locs) (hsz : ls.size = nL) (hroom : (rest.map fun v => v.category).sum ≤ 8) (hcb : cells ≤ R.cells) (hsb : slots ≤ R.slots)
    (kk : ∀ (v : Value) (ws' : va_W) (H1 : Heap) (locs1 : List Loc), zcg h2.2.2 ws ws' → zwr cl tys o h2 ws' → va_P D cl ws' H1 → va_D (zA z) ws' → va_S (zA z) s.heap H1 locs1 → Post v ws' → W p l e R s m args below meth c0 H1 locs1 cells slots Q (F0 m (pc + 3) ls (v :: rest))) : W p l e R s m args below meth c0 H locs cells slots Q (F0 m pc ls (As.reverse ++ .ref b :: rest)) := by
  have hcell := va_recv C.2.2.2.2.2.1 hP hcl he
  have hrun := va_runV (As := As) (b := b) (H := H) (locs := locs) (cells := cells) (slots := slots) (rest := rest) (g := F0 m pc ls (As.reverse ++ .ref b :: rest)) (mc := mr.2.2.2.2.1) (ms := mr.2.2.2.2.2.1) (n := n) (C := mr.1.cls) (index := idx) (below := below) (e := e) (meth := meth) ⟨C.1, C.2.1, C.2.2.1, C.2.2.2.1, C.2.2.2.2.1⟩ hM ⟨callB_of n C.2.2.2.2.1 (zgood hgood hcode) rfl rfl rfl (C.2.2.2.2.1 _ hini) (C.2.2.2.2.1 _ hl) hpar ⟨hF, hL⟩, C.2.2.2.2.1 _ hin, C.2.2.2.2.1 _ hsel⟩ ⟨zblind hX, hcell, fun U hU hW => ⟨rfl, hw, by rw [hU]; exact hP, hD, va_K.moved hW.alike C.2.2.2.2.2.1, by rw [hU]; exact hX.2.1 s U H hW (hX.2.2 s s.heap H C.2.2.2.2.2.2.2.2.1 (fun q hq => hS.2.1 q (Nat.lt_of_lt_of_le hq C.2.2.2.2.2.2.2.2.1) (Nat.not_le.mpr hq)) C.2.2.2.2.2.2.2.1), by rw [hU]; exact Nat.le_trans C.2.2.2.2.2.2.2.2.1 hS.1⟩⟩ rfl hlen hsz rfl (lv_room hroom) hd ⟨by rw [hc0]; exact hcb, by rw [hs0]; exact hsb⟩
  intro T9 hT Y
  obtain ⟨v, st₀, t, T', L, h0, Y', hL9, e1, e2, ⟨⟨v', ws', hv, p1, p2, p3, p4, p5⟩, hz, hk⟩, st⟩ := hrun T9 hT Y
  cases hv
  rw [h0] at hz hk
  rw [← e1] at p3
  rw [hc0, hs0] at Y'
  obtain ⟨t2, a1, b1⟩ := kk v' ws' T'.heap (locs ++ L) p1 p2 p3 p4
    ⟨Nat.le_trans hS.1 (by rw [e1]; exact hz), fun q h1 h2 => by rw [e1, hk q (Nat.lt_of_lt_of_le h1 hS.1) h2]; exact hS.2.1 q h1 h2, fun q hq => by
      rcases List.mem_append.mp hq with h | h
      · exact hS.2.2 q h
      · exact hL9 q h⟩ p5 T' rfl Y'
  exact ⟨t2, st t2 a1, b1⟩
theorem zv_callS (C : zCx p R s m args meth c0 D cl tys z X Ts own cc nL nm) (hX : zXok X z) (hgood : ∀ w ∈ Ts, goodWord w = true) {pc n idx fr lo : Nat} {mr : zM} {h h2 : zH} {ws : va_W} {As rest : List Value} {Post : Value → va_W → Prop} (hM : zMetV l D cl tys o z X Ts mr fr lo h h2 ws As Post) (hc0 : mr.2.2.2.2.1 = 0) (hs0 : mr.2.2.2.2.2.1 = 0) (hF : fr + 1 ≤ R.frames) (hL : 8 + (mr.2.2.1 + 11) + lo ≤ R.locals) (hcode : Cond.code mr.1 mr.2.1 mr.2.2.1 mr.2.2.2.1 ∈ Ts) (hl : Cond.methodLink own idx mr.1 ∈ Ts) (hst : Cond.static mr.1 ∈ Ts) (hini : Cond.initialized mr.1.cls ∈ Ts) (hpar : zPar mr.1 n) (hd : decode cc pc = .ok (.invokestatic idx, 3)) (hlen : As.length = n) {H : Heap} {locs : List Loc} {cells slots : Nat} {ls : Array Slot} (hw : zwr cl tys o h ws) (hP : va_P D cl ws H) (hD : va_D (zA z) ws) (hS : va_S (zA z) s.heap H locs) (hsz : ls.size = nL) (hroom : (rest.map fun v => v.category).sum ≤ 8) (hcb : cells ≤ R.cells) (hsb : slots ≤ R.slots)
    (kk : ∀ (v : Value) (ws' : va_W) (H1 : Heap) (locs1 : List Loc), zcg h2.2.2 ws ws' → zwr cl tys o h2 ws' → va_P D cl ws' H1 → va_D (zA z) ws' → va_S (zA z) s.heap H1 locs1 → Post v ws' → W p l e R s m args below meth c0 H1 locs1 cells slots Q (F0 m (pc + 3) ls (v :: rest))) : W p l e R s m args below meth c0 H locs cells slots Q (F0 m pc ls (As.reverse ++ rest)) := by
  have hrun := va_runS (As := As) (H := H) (locs := locs) (cells := cells) (slots := slots) (rest := rest) (g := F0 m pc ls (As.reverse ++ rest)) (mc := mr.2.2.2.2.1) (ms := mr.2.2.2.2.2.1) (n := n) (index := idx) (below := below) (e := e) (meth := meth) ⟨C.1, C.2.1, C.2.2.1, C.2.2.2.1, C.2.2.2.2.1⟩ hM ⟨callB_of n C.2.2.2.2.1 (zgood hgood hcode) rfl rfl rfl (C.2.2.2.2.1 _ hini) (C.2.2.2.2.1 _ hl) hpar ⟨hF, hL⟩, C.2.2.2.2.1 _ hst⟩ ⟨zblind hX, fun U hU hW => ⟨rfl, hw, by rw [hU]; exact hP, hD, va_K.moved hW.alike C.2.2.2.2.2.1, by rw [hU]; exact hX.2.1 s U H hW (hX.2.2 s s.heap H C.2.2.2.2.2.2.2.2.1 (fun q hq => hS.2.1 q (Nat.lt_of_lt_of_le hq C.2.2.2.2.2.2.2.2.1) (Nat.not_le.mpr hq)) C.2.2.2.2.2.2.2.1), by rw [hU]; exact Nat.le_trans C.2.2.2.2.2.2.2.2.1 hS.1⟩⟩ rfl hlen hsz rfl (lv_room hroom) hd ⟨by rw [hc0]; exact hcb, by rw [hs0]; exact hsb⟩
  intro T9 hT Y
  obtain ⟨v, st₀, t, T', L, h0, Y', hL9, e1, e2, ⟨⟨v', ws', hv, p1, p2, p3, p4, p5⟩, hz, hk⟩, st⟩ := hrun T9 hT Y
  cases hv
  rw [h0] at hz hk
  rw [← e1] at p3
  rw [hc0, hs0] at Y'
  obtain ⟨t2, a1, b1⟩ := kk v' ws' T'.heap (locs ++ L) p1 p2 p3 p4
    ⟨Nat.le_trans hS.1 (by rw [e1]; exact hz), fun q h1 h2 => by rw [e1, hk q (Nat.lt_of_lt_of_le h1 hS.1) h2]; exact hS.2.1 q h1 h2, fun q hq => by
      rcases List.mem_append.mp hq with h | h
      · exact hS.2.2 q h
      · exact hL9 q h⟩ p5 T' rfl Y'
  exact ⟨t2, st t2 a1, b1⟩
/-- what an array of ints holds -/
def zAr (tys : List (ClassId × FieldType)) (ws : va_W) (k a n : Nat) (F : Nat → Int32) : Prop := ∃ cA, (cA, FieldType.int) ∈ tys ∧ ws[k]? = some (a, .inl (cA, n, .inl F))
theorem zAr_of {h : zH} {ws : va_W} (w : zwr cl tys o h ws) {k n : Nat} {r : zR zAV} (hc : zrget h.2.1 k = some (.inl (0, n, r))) (hk : k < h.1) : ∃ a F, zAr tys ws k a n F ∧ zad ws k = some a ∧ ∀ i, i < n → ∃ v, zaget r i = some v ∧ zgH o (zad ws) v (.int (F i)) := by
  obtain ⟨c, a, e0, h1, h2, h3⟩ := w.2 k hk
  rw [hc] at h1
  cases h1
  obtain ⟨cA, hA, f, rfl, hf⟩ := h3
  exact ⟨a, f, ⟨cA, hA, h2⟩, zad_of h2, hf⟩
theorem zAr_cg {d : Nat} {ws ws' : va_W} (h : zcg d ws ws') {k a n : Nat} {F : Nat → Int32} (hA : zAr tys ws k a n F) (hb : zbit d k 0 = false) : zAr tys ws' k a n F := by
  obtain ⟨cA, h1, h2⟩ := hA
  obtain ⟨e', h3, h4⟩ := h k a _ h2
  obtain ⟨x', rfl, h5⟩ := h4
  rw [h5 hb] at h3
  exact ⟨cA, h1, h3⟩
theorem zv_iald (C : zCx p R s m args meth c0 D cl tys z X Ts own cc nL nm) {pc : Nat} (hd : decode cc pc = .ok (.iaload, 1)) {H : Heap} {locs : List Loc} {cells slots : Nat} {ls : Array Slot} {rest : List Value} {ws : va_W} {k a n j : Nat} {F : Nat → Int32} {x : Int32} (hP : va_P D cl ws H) (hA : zAr tys ws k a n F) (hx : x.toInt = (j : Int)) (hj : j < n) (kk : W p l e R s m args below meth c0 H locs cells slots Q (F0 m (pc + 1) ls (.int (F j) :: rest))) : W p l e R s m args below meth c0 H locs cells slots Q (F0 m pc ls (.int x :: .ref a :: rest)) := by
  obtain ⟨cA, h1, h2⟩ := hA
  obtain ⟨t0, ht0⟩ := List.getElem?_of_mem h1
  have e : x.toNatClampNeg = j := by show x.toInt.toNat = j; rw [hx]; rfl
  refine va_iald C.1 C.2.1 C.2.2.2.2.2.1 hP _ t0 h2 ht0 (vp_in_iff.mpr ⟨by rw [hx]; omega, by rw [hx]; omega⟩) hd ?_
  rw [e]
  exact kk
theorem zv_iast (C : zCx p R s m args meth c0 D cl tys z X Ts own cc nL nm) {pc : Nat} (hd : decode cc pc = .ok (.iastore, 1)) {H : Heap} {locs : List Loc} {cells slots : Nat} {ls : Array Slot} {rest : List Value} {ws : va_W} {h : zH} {k a n j : Nat} {F : Nat → Int32} {x v : Int32} {r : zR zAV} (hw : zwr cl tys o h ws) (hc : zrget h.2.1 k = some (.inl (0, n, r))) (hv : ∃ v0, zaget r j = some v0 ∧ zgH o (zad ws) v0 (.int v)) (hP : va_P D cl ws H) (hD : va_D (zA z) ws) (hS : va_S (zA z) s.heap H locs) (hA : zAr tys ws k a n F) (hx : x.toInt = (j : Int)) (hj : j < n) (kk : ∀ (H1 : Heap) (locs1 : List Loc) (ws1 : va_W), zwr cl tys o h ws1 → va_P D cl ws1 H1 → va_D (zA z) ws1 → va_S (zA z) s.heap H1 locs1 → zAr tys ws1 k a n (upd F j v) → zcg (zdirt 0 k 0) ws ws1 → W p l e R s m args below meth c0 H1 locs1 cells slots Q (F0 m (pc + 1) ls rest)) : W p l e R s m args below meth c0 H locs cells slots Q (F0 m pc ls (.int v :: .int x :: .ref a :: rest)) := by
  obtain ⟨cA, h1, h2⟩ := hA
  obtain ⟨t0, ht0⟩ := List.getElem?_of_mem h1
  have e : x.toNatClampNeg = j := by show x.toInt.toNat = j; rw [hx]; rfl
  refine va_iast C.1 C.2.1 C.2.2.2.2.2.1 hP hD hS _ t0 h2 ht0 (vp_in_iff.mpr ⟨by rw [hx]; omega, by rw [hx]; omega⟩) hd (fun H1 locs1 p1 p2 p3 => ?_)
  rw [e] at p1 p2
  refine kk H1 locs1 _ (zwr_same hw h2 hc ?_) p1 p2 p3 ⟨cA, h1, by rw [List.getElem?_set, if_pos rfl, if_pos (List.getElem?_eq_some_iff.mp h2).1]⟩ (zcg_arr zcg_rf h2)
  obtain ⟨c9, a9, e9, g1, g2, g3⟩ := hw.2 k (by have := (List.getElem?_eq_some_iff.mp h2).1; rw [hw.1] at this; exact this)
  rw [hc] at g1
  cases g1
  rw [h2] at g2
  cases g2
  obtain ⟨cA9, hA9, f, hf, hfi⟩ := g3
  cases hf
  refine ⟨cA, h1, _, rfl, fun i hi => ?_⟩
  by_cases hij : i = j
  · subst hij
    obtain ⟨v0, k1, k2⟩ := hv
    refine ⟨v0, k1, ?_⟩
    have e9 : upd F i v i = v := by unfold upd; rw [if_pos rfl]
    rw [e9]
    exact k2
  · obtain ⟨v0, k1, k2⟩ := hfi i hi
    refine ⟨v0, k1, ?_⟩
    have e9 : upd F j v i = F i := by unfold upd; rw [if_neg hij]
    rw [e9]
    exact k2
end ZVAL
