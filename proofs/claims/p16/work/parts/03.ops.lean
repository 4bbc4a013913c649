/-! INSTRUCTIONS -/
def zo_push (nx : Nat) (a : zAV) : zSem := fun _ _ go c => match c with
  | (al, st, h) => go nx (al, a :: st, h)
def zo_i1 (nx : Nat) (f : zI → zI) : zSem := fun _ _ go c => match c with
  | (al, .inl a :: st, h) => zfi (f a.1) (go nx (al, .inl (f a.1, none) :: st, h))
  | _ => false
def zo_i2 (nx : Nat) (f : zI → zI → zI) : zSem := fun _ _ go c => match c with
  | (al, .inl b :: .inl a :: st, h) => zfi (f a.1 b.1) (go nx (al, .inl (f a.1 b.1, none) :: st, h))
  | _ => false
/-- a sum's name: that of one of the two, if the other is one number -/
def zt_add (a b : zN) : zT := match a.2 with
  | some q => if zle b.1.2 b.1.1 && Nat.ble (q.1 + 1) 1000 then some (q.1, q.2 + b.1.1) else none
  | none => match b.2 with
    | some q => if zle a.1.2 a.1.1 && Nat.ble (q.1 + 1) 1000 then some (q.1, q.2 + a.1.1) else none
    | none => none
def zt_sub (a b : zN) : zT := match a.2 with
  | some q => if zle b.1.2 b.1.1 && Nat.ble (q.1 + 1) 1000 then some (q.1, q.2 - b.1.1) else none
  | none => none
def zo_add (nx : Nat) : zSem := fun _ _ go c => match c with
  | (al, .inl b :: .inl a :: st, h) => zfi (zi_add a.1 b.1) (go nx (al, .inl (zi_add a.1 b.1, zt_add a b) :: st, h))
  | _ => false
def zo_sub (nx : Nat) : zSem := fun _ _ go c => match c with
  | (al, .inl b :: .inl a :: st, h) => zfi (zi_sub a.1 b.1) (go nx (al, .inl (zi_sub a.1 b.1, zt_sub a b) :: st, h))
  | _ => false
def zno0 (b : zI) : Bool := zle 1 b.1 || zle b.2 (-1)
def zo_i2d (nx : Nat) (f : zI → zI → zI) : zSem := fun _ _ go c => match c with
  | (al, .inl b :: .inl a :: st, h) => if zno0 b.1 then zfi (f a.1 b.1) (go nx (al, .inl (f a.1 b.1, none) :: st, h)) else false
  | _ => false
noncomputable def zo_loadI (nx i : Nat) : zSem := fun _ _ go c => match c with
  | (al, st, h) => match zlook al i with
    | some (.inl q) => go nx (al, .inl q :: st, h)
    | _ => false
noncomputable def zo_loadL (nx i : Nat) : zSem := fun _ _ go c => match c with
  | (al, st, h) => match zlook al i with
    | some (.inr (.inl q)) => go nx (al, .inr (.inl q) :: st, h)
    | _ => false
noncomputable def zo_loadA (nx i : Nat) : zSem := fun _ _ go c => match c with
  | (al, st, h) => match zlook al i with
    | some (.inr (.inr q)) => go nx (al, .inr (.inr q) :: st, h)
    | _ => false
noncomputable def zo_stI (nx i : Nat) : zSem := fun _ _ go c => match c with
  | (al, .inl q :: st, h) => go nx ((i, .inl q) :: zfilter (zkeep1 i) al, st, h)
  | _ => false
noncomputable def zo_stL (nx i : Nat) : zSem := fun _ _ go c => match c with
  | (al, .inr (.inl q) :: st, h) => go nx ((i, .inr (.inl q)) :: zfilter (zkeep2 i) al, st, h)
  | _ => false
noncomputable def zo_stA (nx i : Nat) : zSem := fun _ _ go c => match c with
  | (al, .inr (.inr q) :: st, h) => go nx ((i, .inr (.inr q)) :: zfilter (zkeep1 i) al, st, h)
  | _ => false
noncomputable def zo_inc (nx i : Nat) (n : Int) : zSem := fun _ _ go c => match c with
  | (al, st, h) => match zlook al i with
    | some (.inl q) => zfi (zi_add q.1 (n, n)) (go nx ((i, .inl (zi_add q.1 (n, n), zt_add q ((n, n), none))) :: zfilter (zkeep1 i) al, st, h))
    | _ => false
def zo_goto (t : Nat) : zSem := fun _ _ go c => go t c
def zo_dup (nx : Nat) : zSem := fun _ _ go c => match c with
  | (al, a :: st, h) => if Nat.beq (zcat a) 1 then go nx (al, a :: a :: st, h) else false
  | _ => false
def zo_pop (nx : Nat) : zSem := fun _ _ go c => match c with
  | (al, a :: st, h) => if Nat.beq (zcat a) 1 then go nx (al, st, h) else false
  | _ => false
def zo_pop2 (nx : Nat) : zSem := fun _ _ go c => match c with
  | (al, a :: st, h) => if Nat.beq (zcat a) 2 then go nx (al, st, h) else false
  | _ => false
def zo_dupx1 (nx : Nat) : zSem := fun _ _ go c => match c with
  | (al, a :: b :: st, h) => if Nat.beq (zcat a) 1 && Nat.beq (zcat b) 1 then go nx (al, a :: b :: a :: st, h) else false
  | _ => false
def zo_dup2 (nx : Nat) : zSem := fun _ _ go c => match c with
  | (al, a :: st, h) => if Nat.beq (zcat a) 2 then go nx (al, a :: a :: st, h) else (match st with
    | b :: st' => if Nat.beq (zcat a) 1 && Nat.beq (zcat b) 1 then go nx (al, a :: b :: a :: b :: st', h) else false
    | [] => false)
  | _ => false
/-! branches -/
def zlt (a b : zI) : Option Bool := if zle (a.2 + 1) b.1 then some true else if zle b.2 a.1 then some false else none
def zeq (a b : zI) : Option Bool := if zle (a.2 + 1) b.1 || zle (b.2 + 1) a.1 then some false else if zle a.2 a.1 && zle b.2 b.1 then some true else none
def znot (d : Option Bool) : Option Bool := match d with
  | some true => some false
  | some false => some true
  | none => none
def zbr (go : Nat → zK → Bool) (d : Option Bool) (t f : Nat) (k : zK) : Bool := match d with
  | some true => go t k
  | some false => go f k
  | none => go t k && go f k
def zdec (P : Prop) (d : Option Bool) : Prop := (d = some true → P) ∧ (d = some false → ¬ P)
theorem zbr_ok {P : Prop} {d : Option Bool} {go : Nat → zK → Bool} {t f : Nat} {k : zK} (hd : zdec P d) (h : zbr go d t f k = true) : (P → go t k = true) ∧ (¬ P → go f k = true) := by
  match d, hd, h with
  | some true, hd, h => exact ⟨fun _ => h, fun n => absurd (hd.1 rfl) n⟩
  | some false, hd, h => exact ⟨fun n => absurd n (hd.2 rfl), fun _ => h⟩
  | none, hd, h =>
    have h : (go t k && go f k) = true := h
    rw [Bool.and_eq_true] at h
    exact ⟨fun _ => h.1, fun _ => h.2⟩
theorem znot_ok {P : Prop} {d : Option Bool} (h : zdec P d) : zdec (¬ P) (znot d) := by
  match d, h with
  | some true, h => exact ⟨fun q => (by simp [znot] at q), fun _ => fun n => n (h.1 rfl)⟩
  | some false, h => exact ⟨fun _ => h.2 rfl, fun q => by simp [znot] at q⟩
  | none, h => exact ⟨fun q => (by simp [znot] at q), fun q => by simp [znot] at q⟩
theorem zdec_iff {P P' : Prop} (h : P ↔ P') {d : Option Bool} (hd : zdec P d) : zdec P' d := ⟨fun q => h.mp (hd.1 q), fun q n => hd.2 q (h.mpr n)⟩
theorem zlt_ok {a b : zI} {x y : Int} (hx : zmem a x) (hy : zmem b y) : zdec (x < y) (zlt a b) := by
  unfold zlt
  obtain ⟨h1, h2⟩ := hx
  obtain ⟨h3, h4⟩ := hy
  split
  · rename_i c; rw [zle_iff] at c
    exact ⟨fun _ => by omega, fun q => by cases q⟩
  · split
    · rename_i c; rw [zle_iff] at c
      exact ⟨fun q => (by cases q), fun _ => by omega⟩
    · exact ⟨fun q => (by cases q), fun q => by cases q⟩
theorem zeq_ok {a b : zI} {x y : Int} (hx : zmem a x) (hy : zmem b y) : zdec (x = y) (zeq a b) := by
  unfold zeq
  obtain ⟨h1, h2⟩ := hx
  obtain ⟨h3, h4⟩ := hy
  split
  · rename_i c; simp only [Bool.or_eq_true, zle_iff] at c
    exact ⟨fun q => (by cases q), fun _ => by omega⟩
  · rename_i c0; simp only [Bool.or_eq_true, zle_iff] at c0
    split
    · rename_i c; simp only [Bool.and_eq_true, zle_iff] at c
      exact ⟨fun _ => by omega, fun q => by cases q⟩
    · exact ⟨fun q => (by cases q), fun q => by cases q⟩
/-- two of one name are like if they have as much more -/
def zteq (a b : zN) : Option Bool := match a.2 with
  | some q => (match b.2 with
    | some r => if Nat.beq q.1 r.1 && (Nat.ble (q.1 + 1) 1000 && (zle q.2 r.2 && zle r.2 q.2)) then some true else none
    | none => none)
  | none => none
theorem ztg_eq {f : Nat → Int32} {q : Nat × Int} {x : Int32} (h : q.1 < 1000) : ztg f (some q) x ↔ x = f q.1 + Int32.ofInt q.2 := by
  unfold ztg
  dsimp only
  rw [if_pos h]
def zeqn (a b : zN) : Option Bool := match zeq a.1 b.1 with
  | some d => some d
  | none => zteq a b
theorem zeqn_ok {f : Nat → Int32} {a b : zN} {x y : Int32} (hx : zmi a.1 x) (hy : zmi b.1 y) (tx : ztg f a.2 x) (ty : ztg f b.2 y) : zdec (x = y) (zeqn a b) := by
  have h := zdec_iff (Int32.toInt_inj (x := x) (y := y)) (zeq_ok hx hy)
  unfold zeqn
  cases hz : zeq a.1 b.1 with
  | some d => rw [hz] at h; exact h
  | none =>
    dsimp only
    unfold zteq
    split
    · rename_i q hq
      split
      · rename_i r hr
        split
        · rename_i hc
          simp only [Bool.and_eq_true, zle_iff] at hc
          have e1 := Nat.eq_of_beq_eq_true hc.1
          have e2 : q.2 = r.2 := by omega
          rw [hq] at tx
          rw [hr] at ty
          have hq1 := Nat.le_of_ble_eq_true hc.2.1
          have tx := (ztg_eq (by omega)).mp tx
          have ty := (ztg_eq (by omega)).mp ty
          exact ⟨fun _ => by rw [tx, ty, e1, e2], fun q => by cases q⟩
        · exact ⟨fun q => (by cases q), fun q => by cases q⟩
      · exact ⟨fun q => (by cases q), fun q => by cases q⟩
    · exact ⟨fun q => (by cases q), fun q => by cases q⟩
def zo_if (f : zI → Option Bool) (t nx : Nat) : zSem := fun _ _ go c => match c with
  | (al, .inl a :: st, h) => zbr go (f a.1) t nx (al, st, h)
  | _ => false
def zo_ic (f : zN → zN → Option Bool) (t nx : Nat) : zSem := fun _ _ go c => match c with
  | (al, .inl b :: .inl a :: st, h) => zbr go (f a b) t nx (al, st, h)
  | _ => false
section ZOPS
variable {p : Program} {l : Launch} {e : Env} {R : Room} {s : State} {m : MethodId} {args : Array Value} {below : List Frame} {meth : Method} {c0 : Code} {Q : State → Prop} {D : va_G} {cl : List vw_C} {tys : List (ClassId × FieldType)} {o : zO} {z : Nat} {X : State → Heap → Prop} {Ts : List Cond} {prog : List zM} {ws0 : va_W} {nL : Nat} {own : String} {cc : ByteArray} {ret : Option FieldType} {nm : String}
theorem zSat_st {al : zL} {st st' : List zAV} {h : zH} {k : Nat × Nat} {ls : Array Slot} {vst vst' : List Value} {H H0 : Heap} {locs : List Loc} {ws : va_W} (S : zSat D cl tys o z ws0 nL H0 (al, st, h, k) ls vst H locs ws) (hst : zr2 (zg o (zad ws)) st' vst') : zSat D cl tys o z ws0 nL H0 (al, st', h, k) ls vst' H locs ws := ⟨S.1, hst, S.2.2⟩
theorem zSat_lo {al al' : zL} {st st' : List zAV} {h : zH} {k : Nat × Nat} {ls ls' : Array Slot} {vst vst' : List Value} {H H0 : Heap} {locs : List Loc} {ws : va_W} {lv' : List (Nat × Value)} (S : zSat D cl tys o z ws0 nL H0 (al, st, h, k) ls vst H locs ws) (hl : lv_has ls' nL lv') (ha : zr2 (zlr o (zad ws)) al' lv') (hst : zr2 (zg o (zad ws)) st' vst') : zSat D cl tys o z ws0 nL H0 (al', st', h, k) ls' vst' H locs ws := ⟨⟨lv', hl, ha⟩, hst, S.2.2⟩
theorem zint {a : zN} {v : Value} {ad : Nat → Option Nat} (h : zg o ad (.inl a) v) : ∃ x : Int32, v = .int x ∧ zmi a.1 x ∧ ztg o.2.2 a.2 x := h
theorem zlong {a : zI} {v : Value} {ad : Nat → Option Nat} (h : zg o ad (.inr (.inl a)) v) : ∃ x : Int64, v = .long x ∧ zmem a x.toInt := h
theorem zref {a : Nat ⊕ (Bool ⊕ Nat)} {v : Value} {ad : Nat → Option Nat} (h : zg o ad (.inr (.inr a)) v) : v = .null ∨ ∃ q, v = .ref q := by
  rcases a with k | t | k
  · obtain ⟨q, -, rfl⟩ := h; exact Or.inr ⟨q, rfl⟩
  · cases t with
    | true => exact Or.inr ⟨_, h⟩
    | false => exact Or.inl h
  · exact h.2
theorem zk_push (C : zCx p R s m args meth c0 D cl tys z X Ts own cc nL nm) {pc nx : Nat} {a : zAV} {v : Value} (hv : ∀ (fv : Nat → Int32) ad, zg (zwith o fv) ad a v) (row : ∀ (H : Heap) (locs : List Loc) (cells slots : Nat) (ls : Array Slot) (rest : List Value), W p l e R s m args below meth c0 H locs cells slots Q (F0 m nx ls (v :: rest)) → W p l e R s m args below meth c0 H locs cells slots Q (F0 m pc ls rest)) : zOp p l e R s m args below meth c0 Q D cl tys o z X Ts prog ws0 nL cc ret (pc) (zo_push nx a) := by
  intro call rt go c _ _ hgo hs fv hfv ls vst H locs ws S
  unfold zo_push at hs
  split at hs
  exact row _ _ _ _ _ _ (hgo _ _ hs fv hfv ls _ H locs ws (zSat_st S ⟨hv _ _, S.2.1⟩))
theorem zk_i1 (C : zCx p R s m args meth c0 D cl tys z X Ts own cc nL nm) {pc nx : Nat} {f : zI → zI} {g : Int32 → Int32} (hf : ∀ {a : zI} {x : Int32}, zmi a x → zmi (f a) (g x)) (row : ∀ (H : Heap) (locs : List Loc) (cells slots : Nat) (ls : Array Slot) (rest : List Value) (x : Int32), W p l e R s m args below meth c0 H locs cells slots Q (F0 m nx ls (.int (g x) :: rest)) → W p l e R s m args below meth c0 H locs cells slots Q (F0 m pc ls (.int x :: rest))) : zOp p l e R s m args below meth c0 Q D cl tys o z X Ts prog ws0 nL cc ret (pc) (zo_i1 nx f) := by
  intro call rt go c _ _ hgo hs fv hfv ls vst H locs ws S
  unfold zo_i1 at hs
  split at hs
  · replace hs := zfi_ok hs
    obtain ⟨v, t, rfl, h1, h2⟩ := zr2_cons S.2.1
    obtain ⟨x, rfl, hx, -⟩ := zint h1
    exact row _ _ _ _ _ _ _ (hgo _ _ hs fv hfv ls _ H locs ws (zSat_st S ⟨⟨_, rfl, hf hx, trivial⟩, h2⟩))
  · cases hs
theorem zk_i2 (C : zCx p R s m args meth c0 D cl tys z X Ts own cc nL nm) {pc nx : Nat} {f : zI → zI → zI} {g : Int32 → Int32 → Int32} (hf : ∀ {a b : zI} {x y : Int32}, zmi a x → zmi b y → zmi (f a b) (g x y)) (row : ∀ (H : Heap) (locs : List Loc) (cells slots : Nat) (ls : Array Slot) (rest : List Value) (x y : Int32), W p l e R s m args below meth c0 H locs cells slots Q (F0 m nx ls (.int (g x y) :: rest)) → W p l e R s m args below meth c0 H locs cells slots Q (F0 m pc ls (.int y :: .int x :: rest))) : zOp p l e R s m args below meth c0 Q D cl tys o z X Ts prog ws0 nL cc ret (pc) (zo_i2 nx f) := by
  intro call rt go c _ _ hgo hs fv hfv ls vst H locs ws S
  unfold zo_i2 at hs
  split at hs
  · replace hs := zfi_ok hs
    obtain ⟨v, t, rfl, h1, h2⟩ := zr2_cons S.2.1
    obtain ⟨v2, t2, rfl, h3, h4⟩ := zr2_cons h2
    obtain ⟨y, rfl, hy, -⟩ := zint h1
    obtain ⟨x, rfl, hx, -⟩ := zint h3
    exact row _ _ _ _ _ _ _ _ (hgo _ _ hs fv hfv ls _ H locs ws (zSat_st S ⟨⟨_, rfl, hf hx hy, trivial⟩, h4⟩))
  · cases hs
theorem zofA (a b : Int) : Int32.ofInt (a + b) = Int32.ofInt a + Int32.ofInt b := Int32.ofInt_add a b
theorem zofS (a b : Int) : Int32.ofInt (a - b) = Int32.ofInt a - Int32.ofInt b := Int32.ofInt_sub a b
theorem zone {a : zI} {x : Int32} (hx : zmi a x) (h : zle a.2 a.1 = true) : Int32.ofInt a.1 = x := by
  rw [zle_iff] at h
  obtain ⟨h1, h2⟩ := hx
  rw [show a.1 = x.toInt by omega]
  exact zof x
theorem zt_add_ok {f : Nat → Int32} {a b : zN} {x y : Int32} (hx : zmi a.1 x) (hy : zmi b.1 y) (tx : ztg f a.2 x) (ty : ztg f b.2 y) : ztg f (zt_add a b) (x + y) := by
  unfold zt_add
  split
  · rename_i q hq
    split
    · rename_i hc
      rw [Bool.and_eq_true] at hc
      have hq1 := Nat.le_of_ble_eq_true hc.2
      rw [hq] at tx
      have tx := (ztg_eq (by omega)).mp tx
      refine (ztg_eq (by show q.1 < 1000; omega)).mpr ?_
      show x + y = f q.1 + Int32.ofInt (q.2 + b.1.1)
      rw [zofA, zone hy hc.1, tx, Int32.add_assoc]
    · trivial
  · split
    · rename_i q hq
      split
      · rename_i hc
        rw [Bool.and_eq_true] at hc
        have hq1 := Nat.le_of_ble_eq_true hc.2
        rw [hq] at ty
        have ty := (ztg_eq (by omega)).mp ty
        refine (ztg_eq (by show q.1 < 1000; omega)).mpr ?_
        show x + y = f q.1 + Int32.ofInt (q.2 + a.1.1)
        rw [zofA, zone hx hc.1, ty, Int32.add_comm x, Int32.add_assoc]
      · trivial
    · trivial
theorem zt_sub_ok {f : Nat → Int32} {a b : zN} {x y : Int32} (hy : zmi b.1 y) (tx : ztg f a.2 x) : ztg f (zt_sub a b) (x - y) := by
  unfold zt_sub
  split
  · rename_i q hq
    split
    · rename_i hc
      rw [Bool.and_eq_true] at hc
      have hq1 := Nat.le_of_ble_eq_true hc.2
      rw [hq] at tx
      have tx := (ztg_eq (by omega)).mp tx
      refine (ztg_eq (by show q.1 < 1000; omega)).mpr ?_
      show x - y = f q.1 + Int32.ofInt (q.2 - b.1.1)
      rw [zofS, zone hy hc.1, tx, Int32.sub_eq_add_neg, Int32.sub_eq_add_neg, Int32.add_assoc]
    · trivial
  · trivial
theorem zk_add (C : zCx p R s m args meth c0 D cl tys z X Ts own cc nL nm) {pc : Nat} (hd : decode cc pc = .ok (.iadd, 1)) : zOp p l e R s m args below meth c0 Q D cl tys o z X Ts prog ws0 nL cc ret (pc) (zo_add (pc + 1)) := by
  intro call rt go c _ _ hgo hs fv hfv ls vst H locs ws S
  unfold zo_add at hs
  split at hs
  · replace hs := zfi_ok hs
    obtain ⟨v, t, rfl, h1, h2⟩ := zr2_cons S.2.1
    obtain ⟨v2, t2, rfl, h3, h4⟩ := zr2_cons h2
    obtain ⟨y, rfl, hy, ty⟩ := zint h1
    obtain ⟨x, rfl, hx, tx⟩ := zint h3
    exact lv_iadd C.1 C.2.1 hd (hgo _ _ hs fv hfv ls _ H locs ws (zSat_st S ⟨⟨_, rfl, zi_add_ok hx hy, zt_add_ok hx hy tx ty⟩, h4⟩))
  · cases hs
theorem zk_sub (C : zCx p R s m args meth c0 D cl tys z X Ts own cc nL nm) {pc : Nat} (hd : decode cc pc = .ok (.isub, 1)) : zOp p l e R s m args below meth c0 Q D cl tys o z X Ts prog ws0 nL cc ret (pc) (zo_sub (pc + 1)) := by
  intro call rt go c _ _ hgo hs fv hfv ls vst H locs ws S
  unfold zo_sub at hs
  split at hs
  · replace hs := zfi_ok hs
    obtain ⟨v, t, rfl, h1, h2⟩ := zr2_cons S.2.1
    obtain ⟨v2, t2, rfl, h3, h4⟩ := zr2_cons h2
    obtain ⟨y, rfl, hy, ty⟩ := zint h1
    obtain ⟨x, rfl, hx, tx⟩ := zint h3
    exact lv_isub C.1 C.2.1 hd (hgo _ _ hs fv hfv ls _ H locs ws (zSat_st S ⟨⟨_, rfl, zi_sub_ok hx hy, zt_sub_ok hy tx⟩, h4⟩))
  · cases hs
theorem zno0_ok {b : zI} {y : Int32} (h : zno0 b = true) (hy : zmi b y) : ¬ y = 0 := by
  intro e
  subst e
  obtain ⟨h1, h2⟩ := hy
  rw [Int32.toInt_zero] at h1 h2
  unfold zno0 at h
  simp only [Bool.or_eq_true, zle_iff] at h
  omega
theorem zk_i2d (C : zCx p R s m args meth c0 D cl tys z X Ts own cc nL nm) {pc nx : Nat} {f : zI → zI → zI} {g : Int32 → Int32 → Int32} (hf : ∀ {a b : zI} {x y : Int32}, zmi a x → zmi b y → zmi (f a b) (g x y)) (row : ∀ (H : Heap) (locs : List Loc) (cells slots : Nat) (ls : Array Slot) (rest : List Value) (x y : Int32), ¬ y = 0 → W p l e R s m args below meth c0 H locs cells slots Q (F0 m nx ls (.int (g x y) :: rest)) → W p l e R s m args below meth c0 H locs cells slots Q (F0 m pc ls (.int y :: .int x :: rest))) : zOp p l e R s m args below meth c0 Q D cl tys o z X Ts prog ws0 nL cc ret (pc) (zo_i2d nx f) := by
  intro call rt go c _ _ hgo hs fv hfv ls vst H locs ws S
  unfold zo_i2d at hs
  split at hs
  · obtain ⟨v, t, rfl, h1, h2⟩ := zr2_cons S.2.1
    obtain ⟨v2, t2, rfl, h3, h4⟩ := zr2_cons h2
    obtain ⟨y, rfl, hy, -⟩ := zint h1
    obtain ⟨x, rfl, hx, -⟩ := zint h3
    split at hs
    · rename_i hn
      replace hs := zfi_ok hs
      exact row _ _ _ _ _ _ _ _ (zno0_ok hn hy) (hgo _ _ hs fv hfv ls _ H locs ws (zSat_st S ⟨⟨_, rfl, hf hx hy, trivial⟩, h4⟩))
    · cases hs
  · cases hs
theorem zlv {al : zL} {ls : Array Slot} {i : Nat} {a : zAV} {ad : Nat → Option Nat} (h : ∃ lv, lv_has ls nL lv ∧ zr2 (zlr o ad) al lv) (hi : zlook al i = some a) : ∃ v, ls[i]? = some (.val v) ∧ zg o ad a v := by
  obtain ⟨lv, h1, h2⟩ := h
  obtain ⟨k, v, h3, h4⟩ := zlook_ok h2 hi
  exact ⟨v, lv_at h1 k h3, h4⟩
theorem zk_loadI (C : zCx p R s m args meth c0 D cl tys z X Ts own cc nL nm) {pc nx i : Nat} (row : ∀ (H : Heap) (locs : List Loc) (cells slots : Nat) (ls : Array Slot) (rest : List Value) (x : Int32), ls[i]? = some (.val (.int x)) → W p l e R s m args below meth c0 H locs cells slots Q (F0 m nx ls (.int x :: rest)) → W p l e R s m args below meth c0 H locs cells slots Q (F0 m pc ls rest)) : zOp p l e R s m args below meth c0 Q D cl tys o z X Ts prog ws0 nL cc ret (pc) (zo_loadI nx i) := by
  intro call rt go c _ _ hgo hs fv hfv ls vst H locs ws S
  unfold zo_loadI at hs
  split at hs
  split at hs
  · rename_i hq
    obtain ⟨v, h1, h2⟩ := zlv S.1 hq
    obtain ⟨x, rfl, hx⟩ := zint h2
    exact row _ _ _ _ _ _ _ h1 (hgo _ _ hs fv hfv ls _ H locs ws (zSat_st S ⟨⟨_, rfl, hx⟩, S.2.1⟩))
  · cases hs
theorem zk_loadL (C : zCx p R s m args meth c0 D cl tys z X Ts own cc nL nm) {pc nx i : Nat} (row : ∀ (H : Heap) (locs : List Loc) (cells slots : Nat) (ls : Array Slot) (rest : List Value) (x : Int64), ls[i]? = some (.val (.long x)) → W p l e R s m args below meth c0 H locs cells slots Q (F0 m nx ls (.long x :: rest)) → W p l e R s m args below meth c0 H locs cells slots Q (F0 m pc ls rest)) : zOp p l e R s m args below meth c0 Q D cl tys o z X Ts prog ws0 nL cc ret (pc) (zo_loadL nx i) := by
  intro call rt go c _ _ hgo hs fv hfv ls vst H locs ws S
  unfold zo_loadL at hs
  split at hs
  split at hs
  · rename_i hq
    obtain ⟨v, h1, h2⟩ := zlv S.1 hq
    obtain ⟨x, rfl, hx⟩ := zlong h2
    exact row _ _ _ _ _ _ _ h1 (hgo _ _ hs fv hfv ls _ H locs ws (zSat_st S ⟨⟨_, rfl, hx⟩, S.2.1⟩))
  · cases hs
theorem zk_loadA (C : zCx p R s m args meth c0 D cl tys z X Ts own cc nL nm) {pc nx i : Nat} (row : ∀ (H : Heap) (locs : List Loc) (cells slots : Nat) (ls : Array Slot) (rest : List Value) (x : Nat), ls[i]? = some (.val (.ref x)) → W p l e R s m args below meth c0 H locs cells slots Q (F0 m nx ls (.ref x :: rest)) → W p l e R s m args below meth c0 H locs cells slots Q (F0 m pc ls rest)) (row0 : ∀ (H : Heap) (locs : List Loc) (cells slots : Nat) (ls : Array Slot) (rest : List Value), ls[i]? = some (.val .null) → W p l e R s m args below meth c0 H locs cells slots Q (F0 m nx ls (.null :: rest)) → W p l e R s m args below meth c0 H locs cells slots Q (F0 m pc ls rest)) : zOp p l e R s m args below meth c0 Q D cl tys o z X Ts prog ws0 nL cc ret (pc) (zo_loadA nx i) := by
  intro call rt go c _ _ hgo hs fv hfv ls vst H locs ws S
  unfold zo_loadA at hs
  split at hs
  split at hs
  · rename_i hq
    obtain ⟨v, h1, h2⟩ := zlv S.1 hq
    have k := hgo _ _ hs fv hfv ls (v :: vst) H locs ws (zSat_st S ⟨h2, S.2.1⟩)
    rcases zref h2 with rfl | ⟨x, rfl⟩
    · exact row0 _ _ _ _ _ _ h1 k
    · exact row _ _ _ _ _ _ _ h1 k
  · cases hs
theorem zk_stI (C : zCx p R s m args meth c0 D cl tys z X Ts own cc nL nm) {pc nx i : Nat} (row : ∀ (H : Heap) (locs : List Loc) (cells slots : Nat) (ls : Array Slot) (rest : List Value) (x : Int32) (lv : List (Nat × Value)), lv_has ls nL lv → (∀ ls' : Array Slot, lv_has ls' nL ((i, Value.int x) :: lv.filter (fun q => !(q.1 == i) && !(q.1 + 1 == i && q.2.category == 2))) → W p l e R s m args below meth c0 H locs cells slots Q (F0 m nx ls' rest)) → W p l e R s m args below meth c0 H locs cells slots Q (F0 m pc ls (.int x :: rest))) : zOp p l e R s m args below meth c0 Q D cl tys o z X Ts prog ws0 nL cc ret (pc) (zo_stI nx i) := by
  intro call rt go c _ _ hgo hs fv hfv ls vst H locs ws S
  unfold zo_stI at hs
  split at hs
  · obtain ⟨v, t, rfl, h1, h2⟩ := zr2_cons S.2.1
    obtain ⟨x, rfl, hx⟩ := zint h1
    obtain ⟨lv, hl, ha⟩ := S.1
    refine row _ _ _ _ _ _ _ lv hl (fun ls' hl' => ?_)
    exact hgo _ _ hs fv hfv ls' _ H locs ws (zSat_lo S hl' ⟨⟨rfl, _, rfl, hx⟩, zfilter_ok zkeep1_ok ha⟩ h2)
  · cases hs
theorem zk_stL (C : zCx p R s m args meth c0 D cl tys z X Ts own cc nL nm) {pc nx i : Nat} (row : ∀ (H : Heap) (locs : List Loc) (cells slots : Nat) (ls : Array Slot) (rest : List Value) (x : Int64) (lv : List (Nat × Value)), lv_has ls nL lv → (∀ ls' : Array Slot, lv_has ls' nL ((i, Value.long x) :: lv.filter (fun q => !(q.1 == i) && (!(q.1 == i + 1) && !(q.1 + 1 == i && q.2.category == 2)))) → W p l e R s m args below meth c0 H locs cells slots Q (F0 m nx ls' rest)) → W p l e R s m args below meth c0 H locs cells slots Q (F0 m pc ls (.long x :: rest))) : zOp p l e R s m args below meth c0 Q D cl tys o z X Ts prog ws0 nL cc ret (pc) (zo_stL nx i) := by
  intro call rt go c _ _ hgo hs fv hfv ls vst H locs ws S
  unfold zo_stL at hs
  split at hs
  · obtain ⟨v, t, rfl, h1, h2⟩ := zr2_cons S.2.1
    obtain ⟨x, rfl, hx⟩ := zlong h1
    obtain ⟨lv, hl, ha⟩ := S.1
    refine row _ _ _ _ _ _ _ lv hl (fun ls' hl' => ?_)
    exact hgo _ _ hs fv hfv ls' _ H locs ws (zSat_lo S hl' ⟨⟨rfl, _, rfl, hx⟩, zfilter_ok zkeep2_ok ha⟩ h2)
  · cases hs
theorem zk_stA (C : zCx p R s m args meth c0 D cl tys z X Ts own cc nL nm) {pc nx i : Nat} (row : ∀ (H : Heap) (locs : List Loc) (cells slots : Nat) (ls : Array Slot) (rest : List Value) (x : Nat) (lv : List (Nat × Value)), lv_has ls nL lv → (∀ ls' : Array Slot, lv_has ls' nL ((i, Value.ref x) :: lv.filter (fun q => !(q.1 == i) && !(q.1 + 1 == i && q.2.category == 2))) → W p l e R s m args below meth c0 H locs cells slots Q (F0 m nx ls' rest)) → W p l e R s m args below meth c0 H locs cells slots Q (F0 m pc ls (.ref x :: rest))) (row0 : ∀ (H : Heap) (locs : List Loc) (cells slots : Nat) (ls : Array Slot) (rest : List Value) (lv : List (Nat × Value)), lv_has ls nL lv → (∀ ls' : Array Slot, lv_has ls' nL ((i, Value.null) :: lv.filter (fun q => !(q.1 == i) && !(q.1 + 1 == i && q.2.category == 2))) → W p l e R s m args below meth c0 H locs cells slots Q (F0 m nx ls' rest)) → W p l e R s m args below meth c0 H locs cells slots Q (F0 m pc ls (.null :: rest))) : zOp p l e R s m args below meth c0 Q D cl tys o z X Ts prog ws0 nL cc ret (pc) (zo_stA nx i) := by
  intro call rt go c _ _ hgo hs fv hfv ls vst H locs ws S
  unfold zo_stA at hs
  split at hs
  · obtain ⟨v, t, rfl, h1, h2⟩ := zr2_cons S.2.1
    obtain ⟨lv, hl, ha⟩ := S.1
    rcases zref h1 with rfl | ⟨x, rfl⟩
    · refine row0 _ _ _ _ _ _ lv hl (fun ls' hl' => ?_)
      exact hgo _ _ hs fv hfv ls' _ H locs ws (zSat_lo S hl' ⟨⟨rfl, h1⟩, zfilter_ok zkeep1_ok ha⟩ h2)
    · refine row _ _ _ _ _ _ _ lv hl (fun ls' hl' => ?_)
      exact hgo _ _ hs fv hfv ls' _ H locs ws (zSat_lo S hl' ⟨⟨rfl, h1⟩, zfilter_ok zkeep1_ok ha⟩ h2)
  · cases hs
theorem zex {n : Int} (hn : zin 2147483648 n n = true) : zmi (n, n) (Int32.ofInt n) := by
  rw [zin_iff] at hn
  unfold zmi
  rw [Int32.toInt_ofInt_of_le (by omega) (by omega)]
  exact ⟨Int.le_refl _, Int.le_refl _⟩
theorem zk_inc (C : zCx p R s m args meth c0 D cl tys z X Ts own cc nL nm) {pc i : Nat} {n : Int} (hd : decode cc pc = .ok (.iinc i n, 3)) (hi : i < nL) (hn : zin 2147483648 n n = true) : zOp p l e R s m args below meth c0 Q D cl tys o z X Ts prog ws0 nL cc ret (pc) (zo_inc (pc + 3) i n) := by
  intro call rt go c _ _ hgo hs fv hfv ls vst H locs ws S
  unfold zo_inc at hs
  split at hs
  split at hs
  · rename_i hq
    replace hs := zfi_ok hs
    obtain ⟨lv, hl, ha⟩ := S.1
    obtain ⟨k, v, h3, h4⟩ := zlook_ok ha hq
    obtain ⟨x, rfl, hx⟩ := zint h4
    refine lv_iinc C.1 C.2.1 hd hl h3 rfl hi rfl (fun ls' hl' => ?_)
    exact hgo _ _ hs fv hfv ls' _ H locs ws (zSat_lo S hl' ⟨⟨rfl, _, rfl, zi_add_ok hx.1 (zex hn), zt_add_ok (b := ((n, n), none)) hx.1 (zex hn) hx.2 trivial⟩, zfilter_ok zkeep1_ok ha⟩ S.2.1)
  · cases hs
theorem zk_goto (C : zCx p R s m args meth c0 D cl tys z X Ts own cc nL nm) {pc t : Nat} {off : Int} (hd : decode cc pc = .ok (.goto off, 3)) (ht : (pc : Int) + off = (t : Int)) : zOp p l e R s m args below meth c0 Q D cl tys o z X Ts prog ws0 nL cc ret (pc) (zo_goto t) := by
  intro call rt go c _ _ hgo hs fv hfv ls vst H locs ws S
  exact lv_goto C.1 C.2.1 hd ht (hgo _ _ hs fv hfv ls vst H locs ws S)
theorem zcat1 {a : zAV} {v : Value} {ad : Nat → Option Nat} {n : Nat} (h : zg o ad a v) (hc : Nat.beq (zcat a) n = true) : v.category = n := by
  rw [zg_cat h]; exact Nat.eq_of_beq_eq_true hc
theorem zk_dup (C : zCx p R s m args meth c0 D cl tys z X Ts own cc nL nm) {pc : Nat} (hd : decode cc pc = .ok (.dup, 1)) : zOp p l e R s m args below meth c0 Q D cl tys o z X Ts prog ws0 nL cc ret (pc) (zo_dup (pc + 1)) := by
  intro call rt go c _ _ hgo hs fv hfv ls vst H locs ws S
  unfold zo_dup at hs
  split at hs
  · split at hs
    · rename_i hc
      obtain ⟨v, t, rfl, h1, h2⟩ := zr2_cons S.2.1
      exact lv_dup C.1 C.2.1 hd (zcat1 h1 hc) (hgo _ _ hs fv hfv ls _ H locs ws (zSat_st S ⟨h1, h1, h2⟩))
    · cases hs
  · cases hs
theorem zk_pop (C : zCx p R s m args meth c0 D cl tys z X Ts own cc nL nm) {pc : Nat} (hd : decode cc pc = .ok (.pop, 1)) : zOp p l e R s m args below meth c0 Q D cl tys o z X Ts prog ws0 nL cc ret (pc) (zo_pop (pc + 1)) := by
  intro call rt go c _ _ hgo hs fv hfv ls vst H locs ws S
  unfold zo_pop at hs
  split at hs
  · split at hs
    · rename_i hc
      obtain ⟨v, t, rfl, h1, h2⟩ := zr2_cons S.2.1
      exact lv_pop C.1 C.2.1 hd (zcat1 h1 hc) (hgo _ _ hs fv hfv ls _ H locs ws (zSat_st S h2))
    · cases hs
  · cases hs
theorem zk_pop2 (C : zCx p R s m args meth c0 D cl tys z X Ts own cc nL nm) {pc : Nat} (hd : decode cc pc = .ok (.pop2, 1)) : zOp p l e R s m args below meth c0 Q D cl tys o z X Ts prog ws0 nL cc ret (pc) (zo_pop2 (pc + 1)) := by
  intro call rt go c _ _ hgo hs fv hfv ls vst H locs ws S
  unfold zo_pop2 at hs
  split at hs
  · split at hs
    · rename_i hc
      obtain ⟨v, t, rfl, h1, h2⟩ := zr2_cons S.2.1
      exact lv_pop2_2 C.1 C.2.1 hd (zcat1 h1 hc) (hgo _ _ hs fv hfv ls _ H locs ws (zSat_st S h2))
    · cases hs
  · cases hs
theorem zk_dupx1 (C : zCx p R s m args meth c0 D cl tys z X Ts own cc nL nm) {pc : Nat} (hd : decode cc pc = .ok (.dup_x1, 1)) : zOp p l e R s m args below meth c0 Q D cl tys o z X Ts prog ws0 nL cc ret (pc) (zo_dupx1 (pc + 1)) := by
  intro call rt go c _ _ hgo hs fv hfv ls vst H locs ws S
  unfold zo_dupx1 at hs
  split at hs
  · split at hs
    · rename_i hc
      rw [Bool.and_eq_true] at hc
      obtain ⟨v, t, rfl, h1, h2⟩ := zr2_cons S.2.1
      obtain ⟨v2, t2, rfl, h3, h4⟩ := zr2_cons h2
      exact lv_dup_x1 C.1 C.2.1 hd (zcat1 h1 hc.1) (zcat1 h3 hc.2) (hgo _ _ hs fv hfv ls _ H locs ws (zSat_st S ⟨h1, h3, h1, h4⟩))
    · cases hs
  · cases hs
theorem zk_dup2 (C : zCx p R s m args meth c0 D cl tys z X Ts own cc nL nm) {pc : Nat} (hd : decode cc pc = .ok (.dup2, 1)) : zOp p l e R s m args below meth c0 Q D cl tys o z X Ts prog ws0 nL cc ret (pc) (zo_dup2 (pc + 1)) := by
  intro call rt go c _ _ hgo hs fv hfv ls vst H locs ws S
  unfold zo_dup2 at hs
  split at hs
  · split at hs
    · rename_i hc
      obtain ⟨v, t, rfl, h1, h2⟩ := zr2_cons S.2.1
      exact lv_dup2_2 C.1 C.2.1 hd (zcat1 h1 hc) (hgo _ _ hs fv hfv ls _ H locs ws (zSat_st S ⟨h1, h1, h2⟩))
    · split at hs
      · split at hs
        · rename_i hc
          rw [Bool.and_eq_true] at hc
          obtain ⟨v, t, rfl, h1, h2⟩ := zr2_cons S.2.1
          obtain ⟨v2, t2, rfl, h3, h4⟩ := zr2_cons h2
          exact lv_dup2_11 C.1 C.2.1 hd (zcat1 h1 hc.1) (zcat1 h3 hc.2) (hgo _ _ hs fv hfv ls _ H locs ws (zSat_st S ⟨h1, h3, h1, h3, h4⟩))
        · cases hs
      · cases hs
  · cases hs
theorem zk_if (C : zCx p R s m args meth c0 D cl tys z X Ts own cc nL nm) {pc nx t : Nat} {f : zI → Option Bool} {P : Int32 → Prop} (hf : ∀ (a : zI) (x : Int32), zmi a x → zdec (P x) (f a)) (row : ∀ (H : Heap) (locs : List Loc) (cells slots : Nat) (ls : Array Slot) (rest : List Value) (x : Int32), (P x → W p l e R s m args below meth c0 H locs cells slots Q (F0 m t ls rest)) → (¬ P x → W p l e R s m args below meth c0 H locs cells slots Q (F0 m nx ls rest)) → W p l e R s m args below meth c0 H locs cells slots Q (F0 m pc ls (.int x :: rest))) : zOp p l e R s m args below meth c0 Q D cl tys o z X Ts prog ws0 nL cc ret (pc) (zo_if f t nx) := by
  intro call rt go c _ _ hgo hs fv hfv ls vst H locs ws S
  unfold zo_if at hs
  split at hs
  · obtain ⟨v, t, rfl, h1, h2⟩ := zr2_cons S.2.1
    obtain ⟨x, rfl, hx⟩ := zint h1
    obtain ⟨k1, k2⟩ := zbr_ok (hf _ x hx.1) hs
    exact row _ _ _ _ _ _ _ (fun q => hgo _ _ (k1 q) fv hfv ls _ H locs ws (zSat_st S h2)) (fun q => hgo _ _ (k2 q) fv hfv ls _ H locs ws (zSat_st S h2))
  · cases hs
theorem zk_ic (C : zCx p R s m args meth c0 D cl tys z X Ts own cc nL nm) {pc nx t : Nat} {f : zN → zN → Option Bool} {P : Int32 → Int32 → Prop} (hf : ∀ (fv : Nat → Int32) (a b : zN) (x y : Int32), zmi a.1 x → zmi b.1 y → ztg fv a.2 x → ztg fv b.2 y → zdec (P x y) (f a b)) (row : ∀ (H : Heap) (locs : List Loc) (cells slots : Nat) (ls : Array Slot) (rest : List Value) (x y : Int32), (P x y → W p l e R s m args below meth c0 H locs cells slots Q (F0 m t ls rest)) → (¬ P x y → W p l e R s m args below meth c0 H locs cells slots Q (F0 m nx ls rest)) → W p l e R s m args below meth c0 H locs cells slots Q (F0 m pc ls (.int y :: .int x :: rest))) : zOp p l e R s m args below meth c0 Q D cl tys o z X Ts prog ws0 nL cc ret (pc) (zo_ic f t nx) := by
  intro call rt go c _ _ hgo hs fv hfv ls vst H locs ws S
  unfold zo_ic at hs
  split at hs
  · obtain ⟨v, t, rfl, h1, h2⟩ := zr2_cons S.2.1
    obtain ⟨v2, t2, rfl, h3, h4⟩ := zr2_cons h2
    obtain ⟨y, rfl, hy⟩ := zint h1
    obtain ⟨x, rfl, hx⟩ := zint h3
    obtain ⟨k1, k2⟩ := zbr_ok (hf _ _ _ x y hx.1 hy.1 hx.2 hy.2) hs
    exact row _ _ _ _ _ _ _ _ (fun q => hgo _ _ (k1 q) fv hfv ls _ H locs ws (zSat_st S h4)) (fun q => hgo _ _ (k2 q) fv hfv ls _ H locs ws (zSat_st S h4))
  · cases hs
end ZOPS
