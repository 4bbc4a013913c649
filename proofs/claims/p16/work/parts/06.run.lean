section ZHEAP2
variable {p : Program} {l : Launch} {e : Env} {R : Room} {s : State} {m : MethodId} {args : Array Value} {below : List Frame} {meth : Method} {c0 : Code} {Q : State → Prop} {D : va_G} {cl : List vw_C} {tys : List (ClassId × FieldType)} {o : zO} {z : Nat} {X : State → Heap → Prop} {Ts : List Cond} {prog : List zM} {ws0 : va_W} {nL : Nat} {own : String} {cc : ByteArray} {ret : Option FieldType} {nm : String}
theorem zgH_w {fv : Nat → Int32} {ad : Nat → Option Nat} {a : zAV} {v : Value} (h : zg (zwith o fv) ad a v) : zgH o ad a v := by
  rcases a with q | q | k | t | k
  · obtain ⟨x, h1, h2, -⟩ := h; exact ⟨x, h1, h2⟩
  · exact h
  · exact h
  · exact h
  · exact h
theorem zcall_k {pc mc ms : Nat} {H : Heap} {locs : List Loc} {cells slots : Nat} {ls : Array Slot} {st0 rest : List Value} {ws : va_W} {k : zRt} {a : Array Value} (hr : va_Run p l e R s m args below meth c0 H locs cells slots mc ms (F0 m pc ls st0) rest (zQ D cl tys o z ws k a) (zA z)) (hS : va_S (zA z) s.heap H locs)
    (kk : ∀ (r : Option zAV) (v : Option Value) (h : zH) (ws' : va_W) (H1 : Heap) (locs1 : List Loc), zgo o (zad ws') r v → zcg h.2.2 ws ws' → zwr cl tys o h ws' → va_P D cl ws' H1 → va_D (zA z) ws' → va_S (zA z) s.heap H1 locs1 → k r h = true → W p l e R s m args below meth c0 H1 locs1 (cells + mc) (slots + ms) Q (F0 m (pc + 3) ls (v.toList ++ rest))) : W p l e R s m args below meth c0 H locs cells slots Q (F0 m pc ls st0) := by
  intro T hT Y
  obtain ⟨v, st₀, t, T', L, h0, Y', hL, e1, e2, ⟨⟨r, v', h, ws', hv, q1, q2, q3, q4, q5, q6⟩, hz, hk⟩, st⟩ := hr T hT Y
  cases hv
  rw [h0] at hz hk
  rw [← e1] at q4
  obtain ⟨t2, a1, b1⟩ := kk r v h ws' T'.heap (locs ++ L) q1 q2 q3 q4 q5
    ⟨Nat.le_trans hS.1 (by rw [e1]; exact hz), fun q h1 h2 => by rw [e1, hk q (Nat.lt_of_lt_of_le h1 hS.1) h2]; exact hS.2.1 q h1 h2, fun q hq => by
      rcases List.mem_append.mp hq with h | h
      · exact hS.2.2 q h
      · exact hL q h⟩ q6 T' rfl Y'
  exact ⟨t2, st t2 a1, b1⟩
/-- what lies outside the world stays: the same tables, warmer tables, no change below z -/
def zXok (X : State → Heap → Prop) (z : Nat) : Prop := (∀ (U U' : State) (H : Heap), U'.vm = U.vm → X U H → X U' H) ∧ (∀ (U U' : State) (H : Heap), U.WarmedH U'.vm → X U H → X U' H) ∧ ∀ (U : State) (H H1 : Heap), z ≤ H.size → (∀ a : Nat, a < z → H1[a]? = H[a]?) → X U H → X U H1
theorem zr2_split {ad : Nat → Option Nat} : ∀ {xs rest : List zAV} {vst : List Value}, zr2 (zg o ad) (xs ++ rest) vst → ∃ vx vr, vst = vx ++ vr ∧ zr2 (zg o ad) xs vx ∧ zr2 (zg o ad) rest vr
  | [], rest, vst, h => ⟨[], vst, rfl, trivial, h⟩
  | a :: xs, rest, vst, h => by
    obtain ⟨v, t, rfl, h1, h2⟩ := zr2_cons h
    obtain ⟨vx, vr, rfl, h3, h4⟩ := zr2_split h2
    exact ⟨v :: vx, vr, rfl, ⟨h1, h3⟩, h4⟩
theorem zr2_rev {ad : Nat → Option Nat} : ∀ {xs : List zAV} {vx : List Value}, zr2 (zg o ad) xs vx → zr2 (zg o ad) xs.reverse vx.reverse
  | [], [], _ => trivial
  | a :: xs, v :: vx, h => by
    rw [List.reverse_cons, List.reverse_cons]
    exact zr2_app (zr2_rev h.2) ⟨h.1, trivial⟩
  | [], _ :: _, h => h.elim
  | _ :: _, [], h => h.elim
theorem zcats_ok {ad : Nat → Option Nat} : ∀ {xs : List zAV} {vx : List Value}, zr2 (zg o ad) xs vx → (vx.map fun v => v.category).sum = zcats xs
  | [], [], _ => rfl
  | a :: xs, v :: vx, h => by
    rw [List.map_cons, List.sum_cons, zcats_ok h.2, zg_cat h.1]
    rfl
  | [], _ :: _, h => h.elim
  | _ :: _, [], h => h.elim
theorem zblind {h : zH} {ws : va_W} {vs : List Value} (hX : zXok X z) : FrameBlind (va_Pc vs (zSt D cl tys o z X h ws)) := by
  intro a U g mk q
  obtain ⟨q0, q1, q2, q3, q4, q5, q6⟩ := q
  exact ⟨q0, q1, q2, q3, va_K.moved (u := U) (U := U.calling g mk a) (Vm.Alike.refl U.vm) q4, hX.1 U _ _ rfl q5, q6⟩
/-- a call: 'row' is the kit's row for its kind -/
theorem zk_call (C : zCx p R s m args meth c0 D cl tys z X Ts own cc nL nm) (hX : zXok X z) {pc mi n mc ms bc bs : Nat} {mr : zM} {recv : List zAV → zH → Bool} {Rc : List Value → Heap → Prop} (hbc : R.cells = bc) (hbs : R.slots = bs) (hm : zget prog mi = some mr) (hmc : mr.2.2.2.2.1 = mc) (hms : mr.2.2.2.2.2.1 = ms)
    (hrecv : ∀ (as : List zAV) (h : zH) (ws : va_W) (vs : List Value) (H : Heap) (locs : List Loc), va_S (zA z) s.heap H locs → recv as h = true → zwr cl tys o h ws → va_P D cl ws H → zr2 (zgH o (zad ws)) as vs → Rc vs H)
    (row : ∀ (H : Heap) (locs : List Loc) (cells slots : Nat) (ls : Array Slot) (As rest : List Value) (fr lo : Nat) (Pc : Array Value → State → Prop) (Qc : Array Value → State → Outcome → State → Prop), Met l mr.1 (.code mr.1 mr.2.1 mr.2.2.1 mr.2.2.2.1 :: Ts) { frames := fr, cells := mr.2.2.2.2.1, slots := mr.2.2.2.2.2.1, locals := lo } Pc Qc mr.2.2.2.2.1 mr.2.2.2.2.2.1 (zA z) → fr + 1 ≤ R.frames → 8 + (mr.2.2.1 + 11) + lo ≤ R.locals → FrameBlind Pc → (∀ U : State, U.heap = H → s.WarmedH U.vm → Pc As.toArray U) → Rc As H → As.length = n → ls.size = nL → 2 * (F0 m pc ls (As.reverse ++ rest)).monitorRoom + (rest.map fun v => v.category).sum ≤ 8 → cells + mc ≤ R.cells ∧ slots + ms ≤ R.slots →
      va_Run p l e R s m args below meth c0 H locs cells slots mc ms (F0 m pc ls (As.reverse ++ rest)) rest (Qc As.toArray) (zA z)) : zOp p l e R s m args below meth c0 Q D cl tys o z X Ts prog ws0 nL cc ret (pc) (zo_call (pc + 3) mi n mc ms bc bs recv) := by
  intro call rt go c hcall _ hgo hs fv hfv ls vst H locs ws S
  unfold zo_call at hs
  split at hs
  rename_i al st h cs sl
  split at hs
  · rename_i as rest hp
    split at hs
    · rename_i hcnt
      simp only [Bool.and_eq_true] at hcnt
      obtain ⟨c1, c2, c3, c4⟩ := hcnt
      have c1 := Nat.le_of_ble_eq_true c1
      have c2 := Nat.le_of_ble_eq_true c2
      have c3 := Nat.le_of_ble_eq_true c3
      obtain ⟨xs, e1, e2, e3⟩ := zpop_ok hp
      rw [List.append_nil] at e1
      subst e1
      subst e2
      obtain ⟨vx, vr, rfl, h1, h2⟩ := zr2_split S.2.1
      have h1 := zr2_rev h1
      rw [List.reverse_reverse] at h1
      have hlen : vx.reverse.length = n := by rw [← zr2_len h1]; exact e3
      obtain ⟨fr, lo, f1, f2, hM⟩ := hcall mi mr as h _ hm hs
      have hM := hM ws _ (zr2_imp (fun a b q => zgH_w q) h1)
      have hrun := row H locs cs sl ls vx.reverse vr fr lo _ _ hM f1 f2 (zblind hX) (fun U hU hW => ⟨rfl, S.2.2.1, by rw [hU]; exact S.2.2.2.1, S.2.2.2.2.1, va_K.moved hW.alike C.2.2.2.2.2.1, by rw [hU]; exact hX.2.1 s U H hW (hX.2.2 s s.heap H C.2.2.2.2.2.2.2.2.1 (fun q hq => S.2.2.2.2.2.1.2.1 q (Nat.lt_of_lt_of_le hq C.2.2.2.2.2.2.2.2.1) (Nat.not_le.mpr hq)) C.2.2.2.2.2.2.2.1), by rw [hU]; exact Nat.le_trans C.2.2.2.2.2.2.2.2.1 S.2.2.2.2.2.1.1⟩) (hrecv as h ws _ H locs S.2.2.2.2.2.1 c4 S.2.2.1 S.2.2.2.1 (zr2_imp (fun a b q => zgH_w q) h1)) hlen S.1.choose_spec.1.1 (lv_room (by rw [zcats_ok h2]; exact c1)) ⟨by rw [hbc]; exact c2, by rw [hbs]; exact c3⟩
      rw [List.reverse_reverse] at hrun
      refine zcall_k hrun S.2.2.2.2.2.1 (fun r v h' ws' H1 locs1 q1 q2 q3 q4 q5 q6 q7 => ?_)
      cases r with
      | none =>
        cases v with
        | none => exact hgo _ _ q7 fv hfv ls _ H1 locs1 ws' (zSat_h S h2 (zcg_sub q2) ⟨q3.1, q3.2⟩ q4 q5 q6 (zcg_tr S.2.2.2.2.2.2 q2))
        | some w => exact q1.elim
      | some a =>
        cases v with
        | none => exact q1.elim
        | some w => exact hgo _ _ q7 fv hfv ls _ H1 locs1 ws' (zSat_hp S h2 (zg_strip q1) (zcg_sub q2) ⟨q3.1, q3.2⟩ q4 q5 q6 (zcg_tr S.2.2.2.2.2.2 q2))
    · cases hs
  · cases hs
theorem zk_ret0 (C : zCx p R s m args meth c0 D cl tys z X Ts own cc nL nm) {pc bc bs : Nat} (hbc : R.cells = bc) (hbs : R.slots = bs) (hr : ret = none) (hd : decode cc pc = .ok (.return_, 1)) : zOp p l e R s m args below meth c0 Q D cl tys o z X Ts prog ws0 nL cc ret (pc) (zo_ret0 bc bs) := by
  intro call rt go c _ hrt _ hs fv hfv ls vst H locs ws S
  unfold zo_ret0 at hs
  split at hs
  · split at hs
    · rename_i hcnt
      rw [Bool.and_eq_true] at hcnt
      have e := zr2_nil S.2.1
      subst e
      exact hrt pc ls none none _ H locs ws _ _ trivial S.2.2.1 S.2.2.2.1 S.2.2.2.2.1 S.2.2.2.2.2.1 S.2.2.2.2.2.2 (by rw [hbc]; exact Nat.le_of_ble_eq_true hcnt.1) (by rw [hbs]; exact Nat.le_of_ble_eq_true hcnt.2) ⟨hr, hd⟩ hs
    · cases hs
  · cases hs
theorem zk_ret1 (C : zCx p R s m args meth c0 D cl tys z X Ts own cc nL nm) {pc bc bs t : Nat} {ty : FieldType} (hbc : R.cells = bc) (hbs : R.slots = bs) (hr : ret = some ty) (ht : zftag ty = t) (hd : (decode cc pc = .ok (.ireturn, 1) ∧ (t = 0 ∨ t = 2)) ∨ (decode cc pc = .ok (.lreturn, 1) ∧ ty = .long)) : zOp p l e R s m args below meth c0 Q D cl tys o z X Ts prog ws0 nL cc ret (pc) (zo_ret1 bc bs t) := by
  intro call rt go c _ hrt _ hs fv hfv ls vst H locs ws S
  unfold zo_ret1 at hs
  split at hs
  · rename_i a h cs sl
    split at hs
    · rename_i hcnt
      simp only [Bool.and_eq_true] at hcnt
      obtain ⟨hfit, k1, k2⟩ := hcnt
      obtain ⟨v, t1, rfl, h1, h2⟩ := zr2_cons S.2.1
      have e := zr2_nil h2
      subst e
      have hn := zfit_ok ht hfit h1
      refine hrt pc ls (some v) (some (zstrip a)) _ H locs ws _ _ (zstrip_H (zgH_w h1)) S.2.2.1 S.2.2.2.1 S.2.2.2.2.1 S.2.2.2.2.2.1 S.2.2.2.2.2.2 (by rw [hbc]; exact Nat.le_of_ble_eq_true k1) (by rw [hbs]; exact Nat.le_of_ble_eq_true k2) ?_ hs
      rcases hd with ⟨hd, ht2⟩ | ⟨hd, rfl⟩
      · have hx : ∃ x : Int32, v = .int x := by
          rcases a with q | q | r
          · obtain ⟨x, rfl, -⟩ := h1; exact ⟨x, rfl⟩
          · exfalso
            rcases ht2 with e | e <;> rw [e] at hfit <;> simp [zfit, Nat.beq] at hfit
          · exfalso
            rcases ht2 with e | e <;> rw [e] at hfit <;> simp [zfit, Nat.beq] at hfit
        obtain ⟨x, rfl⟩ := hx
        exact Or.inl ⟨x, ty, rfl, hr, hn.1, hd⟩
      · have hx : ∃ x : Int64, v = .long x := by
          cases v <;> first | exact ⟨_, rfl⟩ | (have h := hn.2; simp [fits] at h)
        obtain ⟨x, rfl⟩ := hx
        exact Or.inr (Or.inl ⟨x, rfl, hr, hd⟩)
    · cases hs
  · cases hs
theorem zret_MQ {bc bs : Nat} {k : zRt} (hx : p.tables.exec = Jvm.exec) (hb : c0.code = cc) (hlocks : meth.locks = false) (hr : meth.sig.returnType = ret) (hbc : R.cells = bc) (hbs : R.slots = bs) : zRetOk p l e R s m args below meth c0 (MQ below (zQ D cl tys o z ws0 k) args s bc bs (zA z)) D cl tys o z ws0 cc ret k := by
  intro pc ls v r h H locs ws cells slots q1 q2 q3 q4 q5 q6 q7 q8 q9 q10
  have hq : ∀ t : State, t.heap = H → s.WarmedH t.vm → zQ D cl tys o z ws0 k args s (.returned v) t := fun t ht _ => ⟨⟨r, v, h, ws, rfl, q1, q6, q2, by rw [ht]; exact q3, q4, q10⟩, q5.F ht⟩
  refine W.widen (k := bc) (n := bs) (by rw [← hbc]; exact q7) (by rw [← hbs]; exact q8) ?_
  cases v with
  | none =>
    obtain ⟨e1, e2⟩ := q9
    exact W.vret hx hb (hr.trans e1) hq q5.2.2 e2 hlocks
  | some w =>
    rcases q9 with ⟨x, ty, rfl, e1, e2, e3⟩ | ⟨x, rfl, e1, e3⟩ | ⟨x, rt, rfl, e1, e2, e3⟩
    · exact W.zret hx hb (hr.trans e1) e2 hq q5.2.2 e3 hlocks
    · exact W.lret hx hb (hr.trans e1) hq q5.2.2 e3 hlocks
    · exact W.aret hx hb (hr.trans e1) e2 (Or.inr ⟨x, rfl⟩) hq q5.2.2 e3 hlocks
end ZHEAP2
/-! THE WALK ITSELF -/
/-- what a local is named at a method's start -/
def znm (i : Nat) (a : zAV) : zAV := match a with
  | .inl q => .inl (q.1, some (100 + i, 0))
  | .inr q => .inr q
def zargs : Nat → List zAV → zL
  | _, [] => []
  | i, a :: t => (i, znm i a) :: zargs (i + zcat a) t
noncomputable def zcall (prog : List zM) (ih : Nat → Nat → zCode → zRt → Nat → zK → Bool) (fr lo : Nat) : zCall := fun mi as h k => match zget prog mi with
  | none => false
  | some mr => match fr with
    | 0 => false
    | f + 1 => if Nat.ble (219 + mr.2.2.1) lo && (Nat.ble 1 f && (Nat.ble (zcats as) mr.2.2.1 && Nat.ble (zcats as) 700)) then ih f (lo - (19 + mr.2.2.1)) mr.2.2.2.2.2.2 k 0 (zargs 0 as, [], (h.1, h.2.1, 0), 0, 0) else false
noncomputable def zrun (prog : List zM) (n : Nat) : Nat → Nat → zCode → zRt → Nat → zK → Bool := Nat.rec (motive := fun _ => Nat → Nat → zCode → zRt → Nat → zK → Bool) (fun _ _ _ _ _ _ => false) (fun _ ih fr lo code rt pc c => match zrget code pc with
  | some (some sem) => sem (zcall prog ih fr lo) rt (ih fr lo code rt) c
  | _ => false) n
theorem zrun_s {prog : List zM} {n fr lo : Nat} {code : zCode} {rt : zRt} {pc : Nat} {c : zK} (h : zrun prog (n + 1) fr lo code rt pc c = true) : ∃ sem, zrget code pc = some (some sem) ∧ sem (zcall prog (zrun prog n) fr lo) rt (zrun prog n fr lo code rt) c = true := by
  have h : (match zrget code pc with | some (some sem) => sem (zcall prog (zrun prog n) fr lo) rt (zrun prog n fr lo code rt) c | _ => false) = true := h
  split at h
  · rename_i sem hc
    exact ⟨sem, hc, h⟩
  · cases h
def zCodeOk (l : Launch) (D : va_G) (cl : List vw_C) (tys : List (ClassId × FieldType)) (o : zO) (z : Nat) (X : State → Heap → Prop) (Ts : List Cond) (prog : List zM) (mr : zM) : Prop :=
  ∀ (p : Program) (e : Env) (R : Room) (s : State) (m : MethodId) (args : Array Value) (below : List Frame) (meth : Method) (c0 : Code) (Q : State → Prop) (ws0 : va_W), R.cells = mr.2.2.2.2.1 → R.slots = mr.2.2.2.2.2.1 → zCx p R s m args meth c0 D cl tys z X Ts mr.1.cls mr.2.1 mr.2.2.1 mr.1.name → ∀ pc sem, zrget mr.2.2.2.2.2.2 pc = some (some sem) → zOp p l e R s m args below meth c0 Q D cl tys o z X Ts prog ws0 mr.2.2.1 mr.2.1 mr.2.2.2.1 pc sem
def zProgOk (l : Launch) (D : va_G) (cl : List vw_C) (tys : List (ClassId × FieldType)) (o : zO) (z : Nat) (X : State → Heap → Prop) (Ts : List Cond) (prog : List zM) : Prop :=
  ∀ mi mr, zget prog mi = some mr → plainName mr.1.cls = true ∧ zCodeOk l D cl tys o z X Ts prog mr
def zfvs : Nat → List Value → Nat → Int32
  | _, [], _ => 0
  | i, v :: t, n => if n = 100 + i then (match v with
    | .int x => x
    | _ => 0) else zfvs (if v.category = 2 then i + 2 else i + 1) t n
section ZRUN
variable {p : Program} {l : Launch} {e : Env} {R : Room} {s : State} {m : MethodId} {args : Array Value} {below : List Frame} {meth : Method} {c0 : Code} {Q : State → Prop} {D : va_G} {cl : List vw_C} {tys : List (ClassId × FieldType)} {o : zO} {z : Nat} {X : State → Heap → Prop} {Ts : List Cond} {prog : List zM} {ws0 : va_W} {nL : Nat} {own : String} {cc : ByteArray} {ret : Option FieldType} {nm : String}
/-- names at a method's start -/
def zent (g : Nat → Int32) (vs : List Value) (n : Nat) : Int32 := if n < 100 then g n else zfvs 0 vs n
theorem zent_ag (g : Nat → Int32) (vs : List Value) : zag g (zent g vs) := fun n h => by unfold zent; rw [if_pos h]
theorem zent_F (g : Nat → Int32) (vs : List Value) {n : Nat} (h : 100 ≤ n) : zent g vs n = zfvs 0 vs n := by unfold zent; rw [if_neg (by omega)]
theorem zgH_cat {ad : Nat → Option Nat} {a : zAV} {v : Value} (h : zgH o ad a v) : v.category = zcat a := by
  have e := zg_cat (zg_strip h)
  rw [e]
  rcases a with q | q <;> rfl
theorem zargs_ok {ad : Nat → Option Nat} {g : Nat → Int32} : ∀ {i : Nat} {as : List zAV} {vs : List Value}, zr2 (zgH o ad) as vs → i + zcats as < 800 → ∀ F : Nat → Int32, (∀ n, 100 + i ≤ n → F n = zfvs i vs n) → zr2 (zlr (zwith o F) ad) (zargs i as) (lv_args i vs)
  | _, [], [], _, _, _, _ => trivial
  | i, a :: as, v :: vs, h, hi, F, hF => by
    have hi' : i + (zcat a + zcats as) < 800 := hi
    have hi9 : (100 + i, (0 : Int)).1 < 1000 := by show 100 + i < 1000; omega
    have e : (if v.category = 2 then i + 2 else i + 1) = i + zcat a := by
      rw [zgH_cat h.1]
      rcases a with q | q | q <;> simp [zcat]
    refine ⟨⟨rfl, ?_⟩, ?_⟩
    · have hg := h.1
      rcases a with q | q | k | t | k
      · obtain ⟨x, rfl, hx⟩ := hg
        refine ⟨x, rfl, hx, (ztg_eq (q := (100 + i, 0)) hi9).mpr ?_⟩
        show x = F (100 + i) + Int32.ofInt 0
        rw [hF (100 + i) (Nat.le_refl _)]
        show x = (if 100 + i = 100 + i then x else _) + Int32.ofInt 0
        rw [if_pos rfl, show Int32.ofInt 0 = 0 by decide, Int32.add_zero]
      · exact hg
      · exact hg
      · exact hg
      · exact hg
    · rw [e]
      refine zargs_ok (g := g) h.2 (by omega) F (fun n hn => ?_)
      have hc : 1 ≤ zcat a := by rcases a with q | q | q <;> simp [zcat]
      rw [hF n (by omega)]
      show (if n = 100 + i then _ else zfvs (if v.category = 2 then i + 2 else i + 1) vs n) = _
      rw [if_neg (by omega), e]
  | _, [], _ :: _, h, _, _, _ => h.elim
  | _, _ :: _, [], h, _, _, _ => h.elim
theorem zsl_len {ad : Nat → Option Nat} : ∀ {as : List zAV} {vs : List Value}, zr2 (zgH o ad) as vs → (lg_sl vs).length = zcats as
  | [], [], _ => rfl
  | a :: as, v :: vs, h => by
    have e := zsl_len h.2
    unfold lg_sl at e ⊢
    rw [List.flatMap_cons, List.length_append, e, zgH_cat h.1]
    rcases a with q | q | q <;> simp [zcat, zcats]
  | [], _ :: _, h => h.elim
  | _ :: _, [], h => h.elim
theorem zrun_ok (hX : zXok X z) (hprog : zProgOk l D cl tys o z X Ts prog) : ∀ (n : Nat) (p : Program) (e : Env) (R : Room) (s : State) (m : MethodId) (args : Array Value) (below : List Frame) (meth : Method) (c0 : Code) (Q : State → Prop) (ws0 : va_W) (nL : Nat) (cc : ByteArray) (ret : Option FieldType) (code : zCode), (∀ pc sem, zrget code pc = some (some sem) → zOp p l e R s m args below meth c0 Q D cl tys o z X Ts prog ws0 nL cc ret (pc) (sem)) → ∀ (fr lo : Nat), fr ≤ R.frames → lo ≤ R.locals → ∀ (rt : zRt), zRetOk p l e R s m args below meth c0 Q D cl tys o z ws0 cc ret rt → ∀ (pc : Nat) (c : zK), zrun prog n fr lo code rt pc c = true → zGo p l e R s m args below meth c0 Q D cl tys o z ws0 nL pc c := by
  intro n
  induction n with
  | zero => intro p e R s m args below meth c0 Q ws0 nL cc ret code _ fr lo _ _ rt _ pc c h; cases h
  | succ n ih =>
    intro p e R s m args below meth c0 Q ws0 nL cc ret code hcode fr lo hfr hlo rt hrt pc c h
    obtain ⟨sem, hsem, hs⟩ := zrun_s h
    refine hcode pc sem hsem _ rt _ c ?_ hrt (fun pc' c' h' => ih p e R s m args below meth c0 Q ws0 nL cc ret code hcode fr lo hfr hlo rt hrt pc' c' h') hs
    intro mi mr av h k hm hc
    unfold zcall at hc
    rw [hm] at hc
    dsimp only at hc
    cases fr with
    | zero => cases hc
    | succ f =>
      dsimp only at hc
      split at hc
      · rename_i hcnt
        simp only [Bool.and_eq_true] at hcnt
        have k1 := Nat.le_of_ble_eq_true hcnt.1
        have k0 := Nat.le_of_ble_eq_true hcnt.2.1
        have k2 := Nat.le_of_ble_eq_true hcnt.2.2.1
        have k3 := Nat.le_of_ble_eq_true hcnt.2.2.2
        refine ⟨f, lo - (19 + mr.2.2.1), by omega, by omega, ?_⟩
        intro ws vs hvs
        obtain ⟨hy, hmr⟩ := hprog mi mr hm
        refine Met.ofW (cc := mr.2.1) (maxL := mr.2.2.1) (ret := mr.2.2.2.1) hy rfl ?_
        intro p' e' s' m' args' below' meth' c' s₁ B hml hv
        obtain ⟨rfl, v1, v2, v3, v4, v5, v6⟩ := hv
        have hts := atoms_spec B.pre
        have CX' : zCx p' { frames := f, cells := mr.2.2.2.2.1, slots := mr.2.2.2.2.2.1, locals := lo - (19 + mr.2.2.1) } s' m' vs.toArray meth' c' D cl tys z X Ts mr.1.cls mr.2.1 mr.2.2.1 mr.1.name := ⟨B.exec, B.bytes, hml, findClass_of_methodNamed B.named, fun w hw => hts w (List.mem_cons_of_mem _ hw), v4, (name_of_methodNamed B.named B.method).1, v5, v6, k0, by show 200 ≤ lo - (19 + mr.2.2.1); omega⟩
        have hl := lv_entry vs (n := mr.2.2.1) (by rw [zsl_len hvs]; exact k2)
        rw [lg_entry_eq]
        refine ih p' e' _ s' m' vs.toArray below' meth' c' _ ws mr.2.2.1 mr.2.1 mr.2.2.2.1 mr.2.2.2.2.2.2 (fun pc sem hp => hmr p' e' _ s' m' vs.toArray below' meth' c' _ ws rfl rfl CX' pc sem hp) f (lo - (19 + mr.2.2.1)) (Nat.le_refl _) (Nat.le_refl _) k (zret_MQ B.exec B.bytes B.notSynchronized B.returns rfl rfl) 0 _ hc (zent o.2.2 vs) (zent_ag _ _) _ [] s'.heap [] ws ⟨⟨_, hl, zargs_ok (g := o.2.2) hvs (by omega) _ (fun n hn => zent_F _ _ (by omega))⟩, trivial, ⟨v1.1, v1.2⟩, v2, v3, va_S.rf, zcg_rf⟩
      · cases hc
end ZRUN
