/-! METHODS THAT NEED NO WORLD: walked over an empty one, they leave every world as it was -/
theorem zXX_up {o : zO} {z z' : Nat} {U : State} {H : Heap} (hz : z ≤ z') (h : zXX o z U H) : zXX o z' U H := by
  have hA : ∀ q, zA z' q → zA z q := fun q hq => Nat.le_trans hz hq
  exact ⟨h.1, h.2.1, fun i hi => ⟨(h.2.2.1 i hi).1.narrow hA, (h.2.2.1 i hi).2.1.narrow hA, (h.2.2.1 i hi).2.2.1.narrow hA, by obtain ⟨n, bs, q1, q2, q3, q4, q5, q6⟩ := (h.2.2.1 i hi).2.2.2; exact ⟨n, bs, q1, q2, q3, q4, q5, q6.narrow hA⟩⟩, h.2.2.2.1, h.2.2.2.2.1, h.2.2.2.2.2.1.narrow hA, h.2.2.2.2.2.2.narrow hA⟩
def znr (a : zAV) : Bool := match a with
  | .inl _ => true
  | .inr (.inl _) => true
  | _ => false
theorem znr_ok {o : zO} {ad ad' : Nat → Option Nat} {a : zAV} {v : Value} (h : znr a = true) (hg : zg o ad a v) : zg o ad' a v := by
  rcases a with q | q | k | t | k
  · exact hg
  · exact hg
  · cases h
  · cases h
  · cases h
theorem znr_l {o : zO} {ad ad' : Nat → Option Nat} : ∀ {as : List zAV} {vs : List Value}, as.all znr = true → zr2 (zg o ad) as vs → zr2 (zg o ad') as vs
  | [], [], _, _ => trivial
  | a :: as, v :: vs, h, q => by
    rw [List.all_cons, Bool.and_eq_true] at h
    exact ⟨znr_ok h.1 q.1, znr_l h.2 q.2⟩
  | [], _ :: _, _, q => q.elim
  | _ :: _, [], _, q => q.elim
def zh0 : zH := (0, [])
noncomputable def zrt0 (M : zMp) (r : zAV) : zRt := fun r' h' => match r' with
  | some a => zcv M a r && Nat.beq h'.1 0
  | none => false
theorem zMet_hf {l : Launch} {D : va_G} {tys : List (ClassId × FieldType)} {o : zO} {z : Nat} {f : Nat → Int32} (E : zEnv tys) {mi : Nat} {mr : zM} (hm : zget zprog mi = some mr) {F L : Nat} (k0 : 1 ≤ F) (k1 : 200 ≤ L) {as : List zAV} {h : zH} {k : zRt} (k2 : zcats as ≤ mr.2.2.1) {r : zAV} (hnr : as.all znr = true) (hr : znr r = true) (hk : k (some r) h = true) {M : zMp} (hM : zMok M f f) {code' : zCode}
    (hcode' : ∀ (z' : Nat) (p : Program) (e : Env) (R : Room) (s : State) (m : MethodId) (args : Array Value) (below : List Frame) (meth : Method) (c0 : Code) (Q : State → Prop) (ws : va_W), R.cells = mr.2.2.2.2.1 → R.slots = mr.2.2.2.2.2.1 → zCx p R s m args meth c0 D vwCl tys z' (zXX o z') zTs mr.1.cls mr.2.1 mr.2.2.1 mr.1.name → ∀ pc sem, zrget code' pc = some (some sem) → zOp p l e R s m args below meth c0 Q D vwCl tys (zwith o f) z' (zXX o z') zTs zprog ws mr.2.2.1 mr.2.1 mr.2.2.2.1 pc sem)
    (hrun : ∀ vs : List Value, zr2 (zg (zwith o f) (zad [])) as vs → ∃ as' n, zr2 (zg (zwith o f) (zad [])) as' vs ∧ zrunv zprog zov0 n F L code' (zrt0 M r) 0 (zargs 0 as', [], zh0, 0, 0) = true) : zMet l D vwCl tys (zwith o f) z (zXX o z) zTs mr F L h as k := by
  intro ws vs hvs
  obtain ⟨hy, -⟩ := zprog_ok (l := l) (D := D) (o := zwith o f) (z := z) E mi mr hm
  refine Met.ofW (cc := mr.2.1) (maxL := mr.2.2.1) (ret := mr.2.2.2.1) hy rfl ?_
  intro p' e' s' m' args' below' meth' c' s₁ B hml hv
  obtain ⟨rfl, v1, v2, v3, v4, v5, v6⟩ := hv
  have hts := atoms_spec B.pre
  have CX' : zCx p' (zRm mr F L) s' m' vs.toArray meth' c' D vwCl tys s'.heap.size (zXX o s'.heap.size) zTs mr.1.cls mr.2.1 mr.2.2.1 mr.1.name := ⟨B.exec, B.bytes, hml, findClass_of_methodNamed B.named, fun w hw => hts w (List.mem_cons_of_mem _ hw), v4, (name_of_methodNamed B.named B.method).1, zXX_up v6 v5, Nat.le_refl _, k0, k1⟩
  have hl := lv_entry vs (n := mr.2.2.1) (by rw [zsl_len hvs]; exact k2)
  rw [lg_entry_eq]
  obtain ⟨as', n, ha, hrun⟩ := hrun vs (znr_l hnr hvs)
  have hgo : zGo p' l e' (zRm mr F L) s' m' vs.toArray below' meth' c' (MQ below' (zQ D vwCl tys (zwith o f) z ws k) vs.toArray s' mr.2.2.2.2.1 mr.2.2.2.2.2.1 (zA z)) D vwCl tys (zwith o f) s'.heap.size [] mr.2.2.1 0 (zargs 0 as', [], zh0, 0, 0) := by
    refine zrunv_ok (X := zXX o s'.heap.size) (z := s'.heap.size) zXX_ok (zprog_ok (o := zwith o f) E) zov0_ok n p' e' (zRm mr F L) s' m' vs.toArray below' meth' c' _ [] mr.2.2.1 mr.2.1 mr.2.2.2.1 code' (hcode' _ p' e' _ s' m' _ below' meth' c' _ [] rfl rfl CX') F L (Nat.le_refl _) (Nat.le_refl _) (zrt0 M r) ?_ 0 _ hrun
    intro pc ls v r' h' H locs ws' cells slots q1 q2 q3 q4 q5 q6 q7 q8 q9 q10
    cases r' with
    | none => cases q10
    | some a =>
      have q10 : (zcv M a r && Nat.beq h'.1 0) = true := q10
      rw [Bool.and_eq_true] at q10
      cases v with
      | none => exact q1.elim
      | some w =>
        refine zret_MQ (z := z) (ws0 := ws) (k := k) (o := zwith o f) B.exec B.bytes B.notSynchronized B.returns rfl rfl pc ls (some w) (some r) h H locs ws cells slots (znr_ok hr (zcv_ok hM q10.1 q1)) v1 (v2.kept ?_) v3 ⟨q5.1, fun q h1 h2 => q5.2.1 q h1 (Nat.not_le.mpr h1), fun l hl => Nat.le_trans v6 (q5.2.2 l hl)⟩ (fun _ _ q => q) q7 q8 q9 hk
        intro k q hk
        exact q5.2.1 q.1 (v2 k q hk).lt (Nat.not_le.mpr (v2 k q hk).lt)
  exact hgo _ [] s'.heap [] [] ⟨⟨_, hl, zargs_ok ha⟩, trivial, ⟨rfl, fun k hk => absurd hk (Nat.not_lt_zero k)⟩, fun k q h => by simp at h, ⟨fun i j p q h => by simp at h, fun k q h => by simp at h⟩, va_S.rf, fun _ _ q => q⟩
/-- known answers, by rows that are found by a number -/
abbrev zHd : Type := List zAV × zAV
noncomputable def zfindF (M : zMp) (as : List zAV) (ds : List zHd) : Option zAV := List.rec (motive := fun _ => Option zAV) none (fun d _ ih => match zall2 (zcv M) as d.1 with
  | true => some d.2
  | false => ih) ds
theorem zfindF_ok {M : zMp} {as : List zAV} {r : zAV} : ∀ {ds : List zHd}, zfindF M as ds = some r → ∃ d ∈ ds, zall2 (zcv M) as d.1 = true ∧ d.2 = r
  | [], h => by cases h
  | d :: ds, h => by
    have h : (match zall2 (zcv M) as d.1 with
      | true => some d.2
      | false => zfindF M as ds) = some r := h
    split at h
    · rename_i hc
      cases h
      exact ⟨d, List.mem_cons_self, hc, rfl⟩
    · obtain ⟨d', h1, h2⟩ := zfindF_ok (ds := ds) h
      exact ⟨d', List.mem_cons_of_mem _ h1, h2⟩
noncomputable def zovR (M : zMp) (mi nL F L : Nat) (idx : List zAV → Nat) (T : zR (List zHd)) : zOv := fun fr lo mi' as h => match Nat.beq mi' mi with
  | false => none
  | true => match Nat.ble (F + 1) fr && (Nat.ble (19 + nL + L) lo && (Nat.ble (zcats as) nL && as.all znr)) with
    | false => none
    | true => match zrget T (idx as) with
      | none => none
      | some ds => match zfindF M as ds with
        | none => none
        | some r => some (some r, h)
/-- a row of what is to be known, walked -/
noncomputable def zchk (M : zMp) (F L : Nat) (code : zCode) (ds : List zHd) : Bool := ds.all fun d => znr d.2 && zrunv zprog zov0 5000 F L code (zrt0 M d.2) 0 (zargs 0 d.1, [], zh0, 0, 0)
theorem zrget_in {α : Type} {T : zR α} {i : Nat} {x : α} (h : zrget T i = some x) : ∃ r ∈ T, x ∈ r := by
  unfold zrget at h
  cases hc : zget T (i / 16) with
  | none => rw [hc] at h; cases h
  | some c =>
    rw [hc] at h
    rw [zget_eq] at hc
    have h : zget c (i % 16) = some x := h
    rw [zget_eq] at h
    exact ⟨c, List.mem_of_getElem? hc, List.mem_of_getElem? h⟩
theorem zovR_ok {l : Launch} {D : va_G} {tys : List (ClassId × FieldType)} {o : zO} {z : Nat} {f : Nat → Int32} (E : zEnv tys) {mi : Nat} {mr : zM} (hm : zget zprog mi = some mr) {nL F L : Nat} (hnL : mr.2.2.1 = nL) (k0 : 1 ≤ F) (k1 : 200 ≤ L) {M : zMp} (hM : zMok M f f) {code' : zCode} {idx : List zAV → Nat} {T : zR (List zHd)}
    (hcode' : ∀ (z' : Nat) (p : Program) (e : Env) (R : Room) (s : State) (m : MethodId) (args : Array Value) (below : List Frame) (meth : Method) (c0 : Code) (Q : State → Prop) (ws : va_W), R.cells = mr.2.2.2.2.1 → R.slots = mr.2.2.2.2.2.1 → zCx p R s m args meth c0 D vwCl tys z' (zXX o z') zTs mr.1.cls mr.2.1 mr.2.2.1 mr.1.name → ∀ pc sem, zrget code' pc = some (some sem) → zOp p l e R s m args below meth c0 Q D vwCl tys (zwith o f) z' (zXX o z') zTs zprog ws mr.2.2.1 mr.2.1 mr.2.2.2.1 pc sem)
    (hT : ∀ r ∈ T, ∀ ds ∈ r, zchk M F L code' ds = true) : zOvOk l D vwCl tys (zwith o f) z (zXX o z) zTs zprog (zovR M mi nL F L idx T) := by
  intro fr lo mi' mr' as h q k hm' hq hk
  unfold zovR at hq
  split at hq
  · cases hq
  · rename_i hb
    have e := Nat.eq_of_beq_eq_true hb
    subst e
    rw [hm] at hm'
    cases hm'
    split at hq
    · cases hq
    · rename_i hcnt
      simp only [Bool.and_eq_true] at hcnt
      obtain ⟨a1, a2, a3, a4⟩ := hcnt
      have a1 := Nat.le_of_ble_eq_true a1
      have a2 := Nat.le_of_ble_eq_true a2
      have a3 := Nat.le_of_ble_eq_true a3
      split at hq
      · cases hq
      · rename_i ds hds
        split at hq
        · cases hq
        · rename_i r hr
          cases hq
          obtain ⟨d, hd, hc, rfl⟩ := zfindF_ok hr
          obtain ⟨row, hr1, hr2⟩ := zrget_in hds
          have hck := List.all_eq_true.mp (hT row hr1 ds hr2) d hd
          rw [Bool.and_eq_true] at hck
          refine ⟨F, L, a1, by rw [hnL]; omega, zMet_hf E hm k0 k1 (by rw [hnL]; exact a3) a4 hck.1 hk hM hcode' ?_⟩
          intro vs hvs
          exact ⟨d.1, 5000, zall2_r2 (S := zg (zwith o f) (zad [])) (T := zg (zwith o f) (zad [])) (fun a b v q1 q2 => zcv_ok hM q1 q2) hc hvs, hck.2⟩
/-- two of one name are like -/
def zgtT (a b : zN) : Option Bool := match zc_gt a b with
  | some d => some d
  | none => (match zteq a b with
    | some true => some false
    | _ => none)
def zleT (a b : zN) : Option Bool := match zc_le a b with
  | some d => some d
  | none => (match zteq a b with
    | some true => some true
    | _ => none)
theorem zteq_ok {f : Nat → Int32} {a b : zN} {x y : Int32} (h : zteq a b = some true) (tx : ztg f a.2 x) (ty : ztg f b.2 y) : x = y := by
  unfold zteq at h
  split at h
  · rename_i q hq
    split at h
    · rename_i r hr
      split at h
      · rename_i hc
        simp only [Bool.and_eq_true, zle_iff] at hc
        have e1 := Nat.eq_of_beq_eq_true hc.1
        have e2 : q.2 = r.2 := by omega
        rw [hq] at tx
        rw [hr] at ty
        have tx : x = f q.1 + Int32.ofInt q.2 := tx
        have ty : y = f r.1 + Int32.ofInt r.2 := ty
        rw [tx, ty, e1, e2]
      · cases h
    · cases h
  · cases h
theorem zgtT_ok {f : Nat → Int32} {a b : zN} {x y : Int32} (hx : zmi a.1 x) (hy : zmi b.1 y) (tx : ztg f a.2 x) (ty : ztg f b.2 y) : zdec (y < x) (zgtT a b) := by
  have h := zc_gt_ok hx hy
  unfold zgtT
  split
  · rename_i d hd; rw [hd] at h; exact h
  · split
    · rename_i ht
      have e := zteq_ok ht tx ty
      subst e
      exact ⟨fun q => (by cases q), fun _ => Int32.lt_irrefl⟩
    · exact ⟨fun q => (by cases q), fun q => by cases q⟩
theorem zleT_ok {f : Nat → Int32} {a b : zN} {x y : Int32} (hx : zmi a.1 x) (hy : zmi b.1 y) (tx : ztg f a.2 x) (ty : ztg f b.2 y) : zdec (x ≤ y) (zleT a b) := by
  have h := zc_le_ok hx hy
  unfold zleT
  split
  · rename_i d hd; rw [hd] at h; exact h
  · split
    · rename_i ht
      have e := zteq_ok ht tx ty
      subst e
      exact ⟨fun _ => Int32.le_refl x, fun q => by cases q⟩
    · exact ⟨fun q => (by cases q), fun q => by cases q⟩
section ZFREE
variable {p : Program} {l : Launch} {e : Env} {R : Room} {s : State} {m : MethodId} {args : Array Value} {below : List Frame} {meth : Method} {c0 : Code} {Q : State → Prop} {D : va_G} {cl : List vw_C} {tys : List (ClassId × FieldType)} {o : zO} {z : Nat} {X : State → Heap → Prop} {Ts : List Cond} {prog : List zM} {ws0 : va_W} {nL : Nat} {own : String} {cc : ByteArray} {ret : Option FieldType} {nm : String}
theorem zq_gtT (C : zCx p R s m args meth c0 D cl tys z X Ts own cc nL nm) {pc t : Nat} {off : Int} (hd : decode cc pc = .ok (.if_icmp .gt off, 3)) (ht : (pc : Int) + off = (t : Int)) : zOp p l e R s m args below meth c0 Q D cl tys o z X Ts prog ws0 nL cc ret (pc) (zo_ic zgtT t (pc + 3)) := zk_ic C (P := fun x y => y < x) (fun a b x y h1 h2 h3 h4 => zgtT_ok h1 h2 h3 h4) (fun _ _ _ _ _ _ _ _ k1 k2 => lv_icmp_gt C.1 C.2.1 hd ht k1 k2)
theorem zq_leT (C : zCx p R s m args meth c0 D cl tys z X Ts own cc nL nm) {pc t : Nat} {off : Int} (hd : decode cc pc = .ok (.if_icmp .le off, 3)) (ht : (pc : Int) + off = (t : Int)) : zOp p l e R s m args below meth c0 Q D cl tys o z X Ts prog ws0 nL cc ret (pc) (zo_ic zleT t (pc + 3)) := zk_ic C (P := fun x y => x ≤ y) (fun a b x y h1 h2 h3 h4 => zleT_ok h1 h2 h3 h4) (fun _ _ _ _ _ _ _ _ k1 k2 => lv_icmp_le C.1 C.2.1 hd ht k1 k2)
end ZFREE
