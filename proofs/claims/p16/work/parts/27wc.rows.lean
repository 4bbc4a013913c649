/-! the machine does what the exact rows say -/
section XQM
variable {p : Program} {l : Launch} {e : Env} {R : Room} {s : State} {m : MethodId} {args : Array Value} {below : List Frame} {meth : Method} {c0 : Code} {Q : State → Prop} {D : va_G} {cl : List vw_C} {tys : List (ClassId × FieldType)} {o : zO} {z : Nat} {X : State → Heap → Prop} {Ts : List Cond} {prog : List zM} {nL : Nat} {own : String} {cc : ByteArray} {ret : Option FieldType} {nm : String}
variable {b : Nat → Nat}
noncomputable def xq_W (p : Program) (l : Launch) (e : Env) (R : Room) (s : State) (m : MethodId) (args : Array Value) (below : List Frame) (meth : Method) (c0 : Code) (Q : State → Prop) (D : va_G) (cl : List vw_C) (tys : List (ClassId × FieldType)) (z : Nat) (nL : Nat) (b : Nat → Nat) (c : xq_C) : Prop :=
  ∀ (ls : Array Slot) (ws : va_W) (H : Heap) (locs : List Loc), xq_L b nL ls c.2.1 → xq_M b D cl tys z s.heap c.2.2.2 ws H locs → W p l e R s m args below meth c0 H locs 0 0 Q (F0 m c.1 ls (c.2.2.1.map (xq_v b)))
noncomputable def xq_R (p : Program) (l : Launch) (e : Env) (R : Room) (s : State) (m : MethodId) (args : Array Value) (below : List Frame) (meth : Method) (c0 : Code) (Q : State → Prop) (D : va_G) (cl : List vw_C) (tys : List (ClassId × FieldType)) (z : Nat) (cc : ByteArray) (ret : Option FieldType) (b : Nat → Nat) (r : xq_O) : Prop :=
  ∀ (pc : Nat) (ls : Array Slot) (ws : va_W) (H : Heap) (locs : List Loc), zRetI cc ret pc (r.1.map (xq_v b)) → xq_M b D cl tys z s.heap r.2 ws H locs → W p l e R s m args below meth c0 H locs 0 0 Q (F0 m pc ls (r.1.map (xq_v b)).toList)
noncomputable def xq_X (p : Program) (l : Launch) (e : Env) (R : Room) (s : State) (m : MethodId) (args : Array Value) (below : List Frame) (meth : Method) (c0 : Code) (Q : State → Prop) (D : va_G) (cl : List vw_C) (tys : List (ClassId × FieldType)) (z : Nat) (nL : Nat) (cc : ByteArray) (ret : Option FieldType) (b : Nat → Nat) (x : xq_C ⊕ xq_O) : Prop := match x with
  | .inl c => xq_W p l e R s m args below meth c0 Q D cl tys z nL b c
  | .inr r => xq_R p l e R s m args below meth c0 Q D cl tys z cc ret b r
/-- a call's start, its end -/
noncomputable def xq_St (D : va_G) (cl : List vw_C) (tys : List (ClassId × FieldType)) (z : Nat) (X : State → Heap → Prop) (b : Nat → Nat) (S : xq_S) (ws : va_W) (U : State) : Prop := xq_r b cl tys S ws ∧ va_P D cl ws U.heap ∧ va_D (zA z) ws ∧ va_K D cl tys U ∧ X U U.heap ∧ z ≤ U.heap.size
noncomputable def xq_Q (D : va_G) (cl : List vw_C) (tys : List (ClassId × FieldType)) (z : Nat) (b : Nat → Nat) (r : xq_O) : Array Value → State → Outcome → State → Prop := fun _ st oc t => (oc = .returned (r.1.map (xq_v b)) ∧ ∃ ws', xq_r b cl tys r.2 ws' ∧ va_P D cl ws' t.heap ∧ va_D (zA z) ws') ∧ va_F (zA z) st t
noncomputable def xq_Mt (l : Launch) (D : va_G) (cl : List vw_C) (tys : List (ClassId × FieldType)) (z : Nat) (X : State → Heap → Prop) (Ts : List Cond) (b : Nat → Nat) (mr : zM) (fr lo : Nat) (vs : List Value) (S : xq_S) (r : xq_O) : Prop :=
  ∀ ws : va_W, xq_r b cl tys S ws → Met l mr.1 (.code mr.1 mr.2.1 mr.2.2.1 mr.2.2.2.1 :: Ts) { frames := fr, cells := mr.2.2.2.2.1, slots := mr.2.2.2.2.2.1, locals := lo } (va_Pc (vs.map (xq_v b)) (xq_St D cl tys z X b S ws)) (xq_Q D cl tys z b r) mr.2.2.2.2.1 mr.2.2.2.2.2.1 (zA z)
/-- the calls that are known -/
noncomputable def xq_Co (l : Launch) (D : va_G) (cl : List vw_C) (tys : List (ClassId × FieldType)) (z : Nat) (X : State → Heap → Prop) (Ts : List Cond) (prog : List zM) (R : Room) (b : Nat → Nat) (call : xq_F) : Prop :=
  (12 ≤ R.frames ∧ 2000 ≤ R.locals) ∧ ∀ mi mr vs S r, zget prog mi = some mr → call mi vs S = some r → mr.2.2.2.2.1 = 0 ∧ mr.2.2.2.2.2.1 = 0 ∧ ∃ fr lo, fr + 1 ≤ R.frames ∧ 8 + (mr.2.2.1 + 11) + lo ≤ R.locals ∧ xq_Mt l D cl tys z X Ts b mr fr lo vs S r
noncomputable def xq_Op (p : Program) (l : Launch) (e : Env) (R : Room) (s : State) (m : MethodId) (args : Array Value) (below : List Frame) (meth : Method) (c0 : Code) (Q : State → Prop) (D : va_G) (cl : List vw_C) (tys : List (ClassId × FieldType)) (z : Nat) (X : State → Heap → Prop) (Ts : List Cond) (prog : List zM) (nL : Nat) (cc : ByteArray) (ret : Option FieldType) (b : Nat → Nat) (pc : Nat) (sem : xq_I) : Prop :=
  ∀ (call : xq_F) (L st : List Value) (S : xq_S) (x : xq_C ⊕ xq_O), xq_Co l D cl tys z X Ts prog R b call → sem call L st S = some x → xq_X p l e R s m args below meth c0 Q D cl tys z nL cc ret b x → xq_W p l e R s m args below meth c0 Q D cl tys z nL b (pc, L, st, S)
theorem xk_push (C : zCx p R s m args meth c0 D cl tys z X Ts own cc nL nm) {pc nx : Nat} {v : Value} (row : ∀ (H : Heap) (locs : List Loc) (cells slots : Nat) (ls : Array Slot) (rest : List Value), W p l e R s m args below meth c0 H locs cells slots Q (F0 m nx ls (xq_v b v :: rest)) → W p l e R s m args below meth c0 H locs cells slots Q (F0 m pc ls rest)) : xq_Op p l e R s m args below meth c0 Q D cl tys z X Ts prog nL cc ret b pc (xi_push nx v) := by
  intro call L st S x _ hs hx ls ws H locs hL hM
  cases hs
  exact row _ _ _ _ _ _ (hx ls ws H locs hL hM)
theorem xk_i1 (C : zCx p R s m args meth c0 D cl tys z X Ts own cc nL nm) {pc nx : Nat} {g : Int32 → Int32} (row : ∀ (H : Heap) (locs : List Loc) (cells slots : Nat) (ls : Array Slot) (rest : List Value) (x : Int32), W p l e R s m args below meth c0 H locs cells slots Q (F0 m nx ls (.int (g x) :: rest)) → W p l e R s m args below meth c0 H locs cells slots Q (F0 m pc ls (.int x :: rest))) : xq_Op p l e R s m args below meth c0 Q D cl tys z X Ts prog nL cc ret b pc (xi_i1 nx g) := by
  intro call L st S x _ hs hx ls ws H locs hL hM
  unfold xi_i1 at hs
  split at hs
  · cases hs
    exact row _ _ _ _ _ _ _ (hx ls ws H locs hL hM)
  · cases hs
theorem xk_i2 (C : zCx p R s m args meth c0 D cl tys z X Ts own cc nL nm) {pc nx : Nat} {g : Int32 → Int32 → Int32} (row : ∀ (H : Heap) (locs : List Loc) (cells slots : Nat) (ls : Array Slot) (rest : List Value) (x y : Int32), W p l e R s m args below meth c0 H locs cells slots Q (F0 m nx ls (.int (g x y) :: rest)) → W p l e R s m args below meth c0 H locs cells slots Q (F0 m pc ls (.int y :: .int x :: rest))) : xq_Op p l e R s m args below meth c0 Q D cl tys z X Ts prog nL cc ret b pc (xi_i2 nx g) := by
  intro call L st S x _ hs hx ls ws H locs hL hM
  unfold xi_i2 at hs
  split at hs
  · cases hs
    exact row _ _ _ _ _ _ _ _ (hx ls ws H locs hL hM)
  · cases hs
theorem xk_i2d (C : zCx p R s m args meth c0 D cl tys z X Ts own cc nL nm) {pc nx : Nat} {g : Int32 → Int32 → Int32} (row : ∀ (H : Heap) (locs : List Loc) (cells slots : Nat) (ls : Array Slot) (rest : List Value) (x y : Int32), ¬ y = 0 → W p l e R s m args below meth c0 H locs cells slots Q (F0 m nx ls (.int (g x y) :: rest)) → W p l e R s m args below meth c0 H locs cells slots Q (F0 m pc ls (.int y :: .int x :: rest))) : xq_Op p l e R s m args below meth c0 Q D cl tys z X Ts prog nL cc ret b pc (xi_i2d nx g) := by
  intro call L st S x _ hs hx ls ws H locs hL hM
  unfold xi_i2d at hs
  split at hs
  · split at hs
    · cases hs
    · rename_i hy
      cases hs
      exact row _ _ _ _ _ _ _ _ hy (hx ls ws H locs hL hM)
  · cases hs
theorem xk_l1 (C : zCx p R s m args meth c0 D cl tys z X Ts own cc nL nm) {pc nx : Nat} {g : Int64 → Int64} (row : ∀ (H : Heap) (locs : List Loc) (cells slots : Nat) (ls : Array Slot) (rest : List Value) (x : Int64), W p l e R s m args below meth c0 H locs cells slots Q (F0 m nx ls (.long (g x) :: rest)) → W p l e R s m args below meth c0 H locs cells slots Q (F0 m pc ls (.long x :: rest))) : xq_Op p l e R s m args below meth c0 Q D cl tys z X Ts prog nL cc ret b pc (xi_l1 nx g) := by
  intro call L st S x _ hs hx ls ws H locs hL hM
  unfold xi_l1 at hs
  split at hs
  · cases hs
    exact row _ _ _ _ _ _ _ (hx ls ws H locs hL hM)
  · cases hs
theorem xk_l2 (C : zCx p R s m args meth c0 D cl tys z X Ts own cc nL nm) {pc nx : Nat} {g : Int64 → Int64 → Int64} (row : ∀ (H : Heap) (locs : List Loc) (cells slots : Nat) (ls : Array Slot) (rest : List Value) (x y : Int64), W p l e R s m args below meth c0 H locs cells slots Q (F0 m nx ls (.long (g x y) :: rest)) → W p l e R s m args below meth c0 H locs cells slots Q (F0 m pc ls (.long y :: .long x :: rest))) : xq_Op p l e R s m args below meth c0 Q D cl tys z X Ts prog nL cc ret b pc (xi_l2 nx g) := by
  intro call L st S x _ hs hx ls ws H locs hL hM
  unfold xi_l2 at hs
  split at hs
  · cases hs
    exact row _ _ _ _ _ _ _ _ (hx ls ws H locs hL hM)
  · cases hs
theorem xk_l2d (C : zCx p R s m args meth c0 D cl tys z X Ts own cc nL nm) {pc nx : Nat} {g : Int64 → Int64 → Int64} (row : ∀ (H : Heap) (locs : List Loc) (cells slots : Nat) (ls : Array Slot) (rest : List Value) (x y : Int64), ¬ y = 0 → W p l e R s m args below meth c0 H locs cells slots Q (F0 m nx ls (.long (g x y) :: rest)) → W p l e R s m args below meth c0 H locs cells slots Q (F0 m pc ls (.long y :: .long x :: rest))) : xq_Op p l e R s m args below meth c0 Q D cl tys z X Ts prog nL cc ret b pc (xi_l2d nx g) := by
  intro call L st S x _ hs hx ls ws H locs hL hM
  unfold xi_l2d at hs
  split at hs
  · split at hs
    · cases hs
    · rename_i hy
      cases hs
      exact row _ _ _ _ _ _ _ _ hy (hx ls ws H locs hL hM)
  · cases hs
theorem xk_lsh (C : zCx p R s m args meth c0 D cl tys z X Ts own cc nL nm) {pc nx : Nat} {g : Int64 → Int32 → Int64} (row : ∀ (H : Heap) (locs : List Loc) (cells slots : Nat) (ls : Array Slot) (rest : List Value) (x : Int64) (y : Int32), W p l e R s m args below meth c0 H locs cells slots Q (F0 m nx ls (.long (g x y) :: rest)) → W p l e R s m args below meth c0 H locs cells slots Q (F0 m pc ls (.int y :: .long x :: rest))) : xq_Op p l e R s m args below meth c0 Q D cl tys z X Ts prog nL cc ret b pc (xi_lsh nx g) := by
  intro call L st S x _ hs hx ls ws H locs hL hM
  unfold xi_lsh at hs
  split at hs
  · cases hs
    exact row _ _ _ _ _ _ _ _ (hx ls ws H locs hL hM)
  · cases hs
theorem xk_lcmp (C : zCx p R s m args meth c0 D cl tys z X Ts own cc nL nm) {pc : Nat} (hd : decode cc pc = .ok (.lcmp, 1)) : xq_Op p l e R s m args below meth c0 Q D cl tys z X Ts prog nL cc ret b pc (xi_lcmp (pc + 1)) := by
  intro call L st S x _ hs hx ls ws H locs hL hM
  unfold xi_lcmp at hs
  split at hs
  · cases hs
    exact W.lcmp C.1 C.2.1 hd (hx ls ws H locs hL hM)
  · cases hs
theorem xk_i2l (C : zCx p R s m args meth c0 D cl tys z X Ts own cc nL nm) {pc : Nat} (hd : decode cc pc = .ok (.i2l, 1)) : xq_Op p l e R s m args below meth c0 Q D cl tys z X Ts prog nL cc ret b pc (xi_i2l (pc + 1)) := by
  intro call L st S x _ hs hx ls ws H locs hL hM
  unfold xi_i2l at hs
  split at hs
  · cases hs
    exact lv_i2l C.1 C.2.1 hd rfl (hx ls ws H locs hL hM)
  · cases hs
theorem xk_l2i (C : zCx p R s m args meth c0 D cl tys z X Ts own cc nL nm) {pc : Nat} (hd : decode cc pc = .ok (.l2i, 1)) : xq_Op p l e R s m args below meth c0 Q D cl tys z X Ts prog nL cc ret b pc (xi_l2i (pc + 1)) := by
  intro call L st S x _ hs hx ls ws H locs hL hM
  unfold xi_l2i at hs
  split at hs
  · cases hs
    exact lv_l2i C.1 C.2.1 hd rfl (hx ls ws H locs hL hM)
  · cases hs
theorem xk_goto (C : zCx p R s m args meth c0 D cl tys z X Ts own cc nL nm) {pc t : Nat} {off : Int} (hd : decode cc pc = .ok (.goto off, 3)) (ht : (pc : Int) + off = (t : Int)) : xq_Op p l e R s m args below meth c0 Q D cl tys z X Ts prog nL cc ret b pc (xi_goto t) := by
  intro call L st S x _ hs hx ls ws H locs hL hM
  cases hs
  exact lv_goto C.1 C.2.1 hd ht (hx ls ws H locs hL hM)
theorem xk_dup (C : zCx p R s m args meth c0 D cl tys z X Ts own cc nL nm) {pc : Nat} (hd : decode cc pc = .ok (.dup, 1)) : xq_Op p l e R s m args below meth c0 Q D cl tys z X Ts prog nL cc ret b pc (xi_dup (pc + 1)) := by
  intro call L st S x _ hs hx ls ws H locs hL hM
  unfold xi_dup at hs
  split at hs
  · cases hs
    exact lv_dup C.1 C.2.1 hd rfl (hx ls ws H locs hL hM)
  · cases hs
    exact lv_dup C.1 C.2.1 hd rfl (hx ls ws H locs hL hM)
  · cases hs
theorem xk_pop (C : zCx p R s m args meth c0 D cl tys z X Ts own cc nL nm) {pc : Nat} (hd : decode cc pc = .ok (.pop, 1)) : xq_Op p l e R s m args below meth c0 Q D cl tys z X Ts prog nL cc ret b pc (xi_pop (pc + 1)) := by
  intro call L st S x _ hs hx ls ws H locs hL hM
  unfold xi_pop at hs
  split at hs
  · cases hs
    exact lv_pop C.1 C.2.1 hd rfl (hx ls ws H locs hL hM)
  · cases hs
    exact lv_pop C.1 C.2.1 hd rfl (hx ls ws H locs hL hM)
  · cases hs
theorem xk_pop2 (C : zCx p R s m args meth c0 D cl tys z X Ts own cc nL nm) {pc : Nat} (hd : decode cc pc = .ok (.pop2, 1)) : xq_Op p l e R s m args below meth c0 Q D cl tys z X Ts prog nL cc ret b pc (xi_pop2 (pc + 1)) := by
  intro call L st S x _ hs hx ls ws H locs hL hM
  unfold xi_pop2 at hs
  split at hs
  · cases hs
    exact lv_pop2_2 C.1 C.2.1 hd rfl (hx ls ws H locs hL hM)
  · cases hs
theorem xk_dx1 (C : zCx p R s m args meth c0 D cl tys z X Ts own cc nL nm) {pc : Nat} (hd : decode cc pc = .ok (.dup_x1, 1)) : xq_Op p l e R s m args below meth c0 Q D cl tys z X Ts prog nL cc ret b pc (xi_dx1 (pc + 1)) := by
  intro call L st S x _ hs hx ls ws H locs hL hM
  unfold xi_dx1 at hs
  split at hs
  · cases hs
    exact lv_dup_x1 C.1 C.2.1 hd rfl rfl (hx ls ws H locs hL hM)
  · cases hs
theorem xk_dup2 (C : zCx p R s m args meth c0 D cl tys z X Ts own cc nL nm) {pc : Nat} (hd : decode cc pc = .ok (.dup2, 1)) : xq_Op p l e R s m args below meth c0 Q D cl tys z X Ts prog nL cc ret b pc (xi_dup2 (pc + 1)) := by
  intro call L st S x _ hs hx ls ws H locs hL hM
  unfold xi_dup2 at hs
  split at hs
  · cases hs
    exact lv_dup2_2 C.1 C.2.1 hd rfl (hx ls ws H locs hL hM)
  · cases hs
    exact lv_dup2_11 C.1 C.2.1 hd rfl rfl (hx ls ws H locs hL hM)
  · cases hs
theorem xk_if (C : zCx p R s m args meth c0 D cl tys z X Ts own cc nL nm) {pc nx t : Nat} {P : Int32 → Prop} {d : ∀ x, Decidable (P x)} (row : ∀ (H : Heap) (locs : List Loc) (cells slots : Nat) (ls : Array Slot) (rest : List Value) (x : Int32), (P x → W p l e R s m args below meth c0 H locs cells slots Q (F0 m t ls rest)) → (¬ P x → W p l e R s m args below meth c0 H locs cells slots Q (F0 m nx ls rest)) → W p l e R s m args below meth c0 H locs cells slots Q (F0 m pc ls (.int x :: rest))) : xq_Op p l e R s m args below meth c0 Q D cl tys z X Ts prog nL cc ret b pc (xi_if P d t nx) := by
  intro call L st S x _ hs hx ls ws H locs hL hM
  unfold xi_if at hs
  split at hs
  · rename_i v r
    cases hs
    refine row _ _ _ _ _ _ _ (fun q => ?_) (fun q => ?_)
    · have hx : xq_W p l e R s m args below meth c0 Q D cl tys z nL b (@ite _ (P v) (d v) (t, L, r, S) (nx, L, r, S)) := hx
      rw [if_pos q] at hx
      exact hx ls ws H locs hL hM
    · have hx : xq_W p l e R s m args below meth c0 Q D cl tys z nL b (@ite _ (P v) (d v) (t, L, r, S) (nx, L, r, S)) := hx
      rw [if_neg q] at hx
      exact hx ls ws H locs hL hM
  · cases hs
theorem xk_ic (C : zCx p R s m args meth c0 D cl tys z X Ts own cc nL nm) {pc nx t : Nat} {P : Int32 → Int32 → Prop} {d : ∀ x y, Decidable (P x y)} (row : ∀ (H : Heap) (locs : List Loc) (cells slots : Nat) (ls : Array Slot) (rest : List Value) (x y : Int32), (P x y → W p l e R s m args below meth c0 H locs cells slots Q (F0 m t ls rest)) → (¬ P x y → W p l e R s m args below meth c0 H locs cells slots Q (F0 m nx ls rest)) → W p l e R s m args below meth c0 H locs cells slots Q (F0 m pc ls (.int y :: .int x :: rest))) : xq_Op p l e R s m args below meth c0 Q D cl tys z X Ts prog nL cc ret b pc (xi_ic P d t nx) := by
  intro call L st S x _ hs hx ls ws H locs hL hM
  unfold xi_ic at hs
  split at hs
  · rename_i v2 v1 r
    cases hs
    refine row _ _ _ _ _ _ _ _ (fun q => ?_) (fun q => ?_)
    · have hx : xq_W p l e R s m args below meth c0 Q D cl tys z nL b (@ite _ (P v1 v2) (d v1 v2) (t, L, r, S) (nx, L, r, S)) := hx
      rw [if_pos q] at hx
      exact hx ls ws H locs hL hM
    · have hx : xq_W p l e R s m args below meth c0 Q D cl tys z nL b (@ite _ (P v1 v2) (d v1 v2) (t, L, r, S) (nx, L, r, S)) := hx
      rw [if_neg q] at hx
      exact hx ls ws H locs hL hM
  · cases hs
theorem xk_ldI (C : zCx p R s m args meth c0 D cl tys z X Ts own cc nL nm) {pc nx i : Nat} (row : ∀ (H : Heap) (locs : List Loc) (cells slots : Nat) (ls : Array Slot) (rest : List Value) (x : Int32), ls[i]? = some (.val (.int x)) → W p l e R s m args below meth c0 H locs cells slots Q (F0 m nx ls (.int x :: rest)) → W p l e R s m args below meth c0 H locs cells slots Q (F0 m pc ls rest)) : xq_Op p l e R s m args below meth c0 Q D cl tys z X Ts prog nL cc ret b pc (xi_ldI nx i) := by
  intro call L st S x _ hs hx ls ws H locs hL hM
  unfold xi_ldI at hs
  split at hs
  · rename_i v hv
    cases hs
    exact row _ _ _ _ _ _ _ (hL.2.2 i _ hv (fun q => by cases q)) (hx ls ws H locs hL hM)
  · cases hs
theorem xk_ldL (C : zCx p R s m args meth c0 D cl tys z X Ts own cc nL nm) {pc nx i : Nat} (row : ∀ (H : Heap) (locs : List Loc) (cells slots : Nat) (ls : Array Slot) (rest : List Value) (x : Int64), ls[i]? = some (.val (.long x)) → W p l e R s m args below meth c0 H locs cells slots Q (F0 m nx ls (.long x :: rest)) → W p l e R s m args below meth c0 H locs cells slots Q (F0 m pc ls rest)) : xq_Op p l e R s m args below meth c0 Q D cl tys z X Ts prog nL cc ret b pc (xi_ldL nx i) := by
  intro call L st S x _ hs hx ls ws H locs hL hM
  unfold xi_ldL at hs
  split at hs
  · rename_i v hv
    cases hs
    exact row _ _ _ _ _ _ _ (hL.2.2 i _ hv (fun q => by cases q)) (hx ls ws H locs hL hM)
  · cases hs
theorem xk_ldA (C : zCx p R s m args meth c0 D cl tys z X Ts own cc nL nm) {pc nx i : Nat} (row : ∀ (H : Heap) (locs : List Loc) (cells slots : Nat) (ls : Array Slot) (rest : List Value) (x : Nat), ls[i]? = some (.val (.ref x)) → W p l e R s m args below meth c0 H locs cells slots Q (F0 m nx ls (.ref x :: rest)) → W p l e R s m args below meth c0 H locs cells slots Q (F0 m pc ls rest)) : xq_Op p l e R s m args below meth c0 Q D cl tys z X Ts prog nL cc ret b pc (xi_ldA nx i) := by
  intro call L st S x _ hs hx ls ws H locs hL hM
  unfold xi_ldA at hs
  split at hs
  · rename_i v hv
    cases hs
    exact row _ _ _ _ _ _ _ (hL.2.2 i _ hv (fun q => by cases q)) (hx ls ws H locs hL hM)
  · cases hs
/-- what the locals hold, as a list -/
def xq_lv (b : Nat → Nat) : Nat → List Value → List (Nat × Value)
  | _, [] => []
  | i, .null :: t => xq_lv b (i + 1) t
  | i, v :: t => (i, xq_v b v) :: xq_lv b (i + 1) t
theorem xq_lv_mem : ∀ {L : List Value} {i : Nat} {q : Nat × Value}, q ∈ xq_lv b i L → ∃ j v, q = (i + j, xq_v b v) ∧ L[j]? = some v ∧ v ≠ .null
  | [], i, q, h => absurd h List.not_mem_nil
  | v :: t, i, q, h => by
    by_cases hv : v = .null
    · subst hv
      obtain ⟨j, w, h1, h2, h3⟩ := xq_lv_mem (L := t) (i := i + 1) h
      exact ⟨j + 1, w, by rw [h1]; congr 1; omega, h2, h3⟩
    · have e : xq_lv b i (v :: t) = (i, xq_v b v) :: xq_lv b (i + 1) t := by
        cases v <;> first | rfl | exact absurd rfl hv
      rw [e] at h
      rcases List.mem_cons.mp h with h | h
      · exact ⟨0, v, h, rfl, hv⟩
      · obtain ⟨j, w, h1, h2, h3⟩ := xq_lv_mem (L := t) (i := i + 1) h
        exact ⟨j + 1, w, by rw [h1]; congr 1; omega, h2, h3⟩
theorem xq_lv_of : ∀ {L : List Value} {i j : Nat} {v : Value}, L[j]? = some v → v ≠ .null → (i + j, xq_v b v) ∈ xq_lv b i L
  | [], i, j, v, h, _ => by simp at h
  | w :: t, i, 0, v, h, hv => by
    have e0 : w = v := by simpa using h
    subst e0
    have e : xq_lv b i (w :: t) = (i, xq_v b w) :: xq_lv b (i + 1) t := by
      cases w <;> first | rfl | exact absurd rfl hv
    rw [e]
    exact List.mem_cons_self
  | w :: t, i, j + 1, v, h, hv => by
    have h0 : t[j]? = some v := h
    have h1 := xq_lv_of (L := t) (i := i + 1) (j := j) (v := v) h0 hv
    rw [show i + 1 + j = i + (j + 1) by omega] at h1
    by_cases hw : w = .null
    · subst hw
      exact h1
    · have e : xq_lv b i (w :: t) = (i, xq_v b w) :: xq_lv b (i + 1) t := by
        cases w <;> first | rfl | exact absurd rfl hw
      rw [e]
      exact List.mem_cons_of_mem _ h1
theorem xq_lv_has {ls : Array Slot} {L : List Value} (h : xq_L b nL ls L) : lv_has ls nL (xq_lv b 0 L) := by
  refine ⟨h.1, h.2.1, fun q hq => ?_⟩
  obtain ⟨j, v, rfl, h1, h2⟩ := xq_lv_mem hq
  rw [Nat.zero_add]
  exact h.2.2 j v h1 h2
theorem xq_v_cat (v : Value) : (xq_v b v).category = v.category := by cases v <;> rfl
theorem xq_k2_at {L : List Value} {i j : Nat} {v : Value} (h : (xq_k2 L i)[j]? = some v) (hv : v ≠ .null) : L[j]? = some v ∧ ¬ (j + 1 = i ∧ v.category = 2) := by
  unfold xq_k2 at h
  split at h
  · exact ⟨h, fun q => by omega⟩
  · rename_i k
    split at h
    · rename_i w hw
      split at h
      · rw [List.getElem?_set] at h
        by_cases hkj : k = j
        · subst hkj
          rw [if_pos rfl] at h
          split at h
          · cases h
            exact absurd rfl hv
          · cases h
        · rw [if_neg hkj] at h
          exact ⟨h, fun q => hkj (by omega)⟩
      · rename_i hc
        refine ⟨h, fun q => ?_⟩
        have e : j = k := by omega
        subst e
        rw [h] at hw
        cases hw
        exact hc q.2
    · rename_i hn
      refine ⟨h, fun q => ?_⟩
      have e : j = k := by omega
      subst e
      rw [h] at hn
      cases hn
theorem xq_L_st {ls ls' : Array Slot} {L : List Value} {i : Nat} {v : Value} (hL : xq_L b nL ls L) (h : lv_has ls' nL ((i, xq_v b v) :: (xq_lv b 0 L).filter (fun q => !(q.1 == i) && !(q.1 + 1 == i && q.2.category == 2)))) : xq_L b nL ls' ((xq_k2 L i).set i v) := by
  refine ⟨h.1, h.2.1, fun j w hj hw => ?_⟩
  rw [List.getElem?_set] at hj
  by_cases hij : i = j
  · subst hij
    rw [if_pos rfl] at hj
    split at hj
    · cases hj
      exact h.2.2 (i, xq_v b v) List.mem_cons_self
    · cases hj
  · rw [if_neg hij] at hj
    obtain ⟨h1, h2⟩ := xq_k2_at hj hw
    have h3 := xq_lv_of (b := b) (i := 0) h1 hw
    rw [Nat.zero_add] at h3
    refine h.2.2 (j, xq_v b w) (List.mem_cons_of_mem _ (List.mem_filter.mpr ⟨h3, ?_⟩))
    have e1 : (j == i) = false := by simpa using (fun q : j = i => hij q.symm)
    have e2 : (j + 1 == i && (xq_v b w).category == 2) = false := by
      rw [xq_v_cat]
      rw [Bool.and_eq_false_iff]
      by_cases hq : j + 1 = i
      · right
        simpa using (fun q : w.category = 2 => h2 ⟨hq, q⟩)
      · left
        simpa using hq
    show (!(j == i) && !(j + 1 == i && (xq_v b w).category == 2)) = true
    rw [e1, e2]
    rfl
theorem xq_L_st2 {ls ls' : Array Slot} {L : List Value} {i : Nat} {v : Value} (hL : xq_L b nL ls L) (h : lv_has ls' nL ((i, xq_v b v) :: (xq_lv b 0 L).filter (fun q => !(q.1 == i) && (!(q.1 == i + 1) && !(q.1 + 1 == i && q.2.category == 2))))) : xq_L b nL ls' (((xq_k2 L i).set i v).set (i + 1) .null) := by
  refine ⟨h.1, h.2.1, fun j w hj hw => ?_⟩
  rw [List.getElem?_set] at hj
  by_cases hij1 : i + 1 = j
  · rw [if_pos hij1] at hj
    split at hj
    · cases hj
      exact absurd rfl hw
    · cases hj
  rw [if_neg hij1, List.getElem?_set] at hj
  by_cases hij : i = j
  · subst hij
    rw [if_pos rfl] at hj
    split at hj
    · cases hj
      exact h.2.2 (i, xq_v b v) List.mem_cons_self
    · cases hj
  · rw [if_neg hij] at hj
    obtain ⟨h1, h2⟩ := xq_k2_at hj hw
    have h3 := xq_lv_of (b := b) (i := 0) h1 hw
    rw [Nat.zero_add] at h3
    refine h.2.2 (j, xq_v b w) (List.mem_cons_of_mem _ (List.mem_filter.mpr ⟨h3, ?_⟩))
    have e1 : (j == i) = false := by simpa using (fun q : j = i => hij q.symm)
    have e3 : (j == i + 1) = false := by simpa using (fun q : j = i + 1 => hij1 q.symm)
    have e2 : (j + 1 == i && (xq_v b w).category == 2) = false := by
      rw [xq_v_cat]
      rw [Bool.and_eq_false_iff]
      by_cases hq : j + 1 = i
      · right
        simpa using (fun q : w.category = 2 => h2 ⟨hq, q⟩)
      · left
        simpa using hq
    show (!(j == i) && (!(j == i + 1) && !(j + 1 == i && (xq_v b w).category == 2))) = true
    rw [e1, e2, e3]
    rfl
theorem xk_stI (C : zCx p R s m args meth c0 D cl tys z X Ts own cc nL nm) {pc nx i : Nat} (row : ∀ (H : Heap) (locs : List Loc) (cells slots : Nat) (ls : Array Slot) (rest : List Value) (x : Int32) (lv : List (Nat × Value)), lv_has ls nL lv → (∀ ls' : Array Slot, lv_has ls' nL ((i, Value.int x) :: lv.filter (fun q => !(q.1 == i) && !(q.1 + 1 == i && q.2.category == 2))) → W p l e R s m args below meth c0 H locs cells slots Q (F0 m nx ls' rest)) → W p l e R s m args below meth c0 H locs cells slots Q (F0 m pc ls (.int x :: rest))) : xq_Op p l e R s m args below meth c0 Q D cl tys z X Ts prog nL cc ret b pc (xi_stI nx i) := by
  intro call L st S x _ hs hx ls ws H locs hL hM
  unfold xi_stI at hs
  split at hs
  · cases hs
    exact row _ _ _ _ _ _ _ _ (xq_lv_has hL) (fun ls' hl' => hx ls' ws H locs (xq_L_st hL hl') hM)
  · cases hs
theorem xk_stL (C : zCx p R s m args meth c0 D cl tys z X Ts own cc nL nm) {pc nx i : Nat} (row : ∀ (H : Heap) (locs : List Loc) (cells slots : Nat) (ls : Array Slot) (rest : List Value) (x : Int64) (lv : List (Nat × Value)), lv_has ls nL lv → (∀ ls' : Array Slot, lv_has ls' nL ((i, Value.long x) :: lv.filter (fun q => !(q.1 == i) && (!(q.1 == i + 1) && !(q.1 + 1 == i && q.2.category == 2)))) → W p l e R s m args below meth c0 H locs cells slots Q (F0 m nx ls' rest)) → W p l e R s m args below meth c0 H locs cells slots Q (F0 m pc ls (.long x :: rest))) : xq_Op p l e R s m args below meth c0 Q D cl tys z X Ts prog nL cc ret b pc (xi_stL nx i) := by
  intro call L st S x _ hs hx ls ws H locs hL hM
  unfold xi_stL at hs
  split at hs
  · cases hs
    exact row _ _ _ _ _ _ _ _ (xq_lv_has hL) (fun ls' hl' => hx ls' ws H locs (xq_L_st2 hL hl') hM)
  · cases hs
theorem xk_stA (C : zCx p R s m args meth c0 D cl tys z X Ts own cc nL nm) {pc nx i : Nat} (row : ∀ (H : Heap) (locs : List Loc) (cells slots : Nat) (ls : Array Slot) (rest : List Value) (x : Nat) (lv : List (Nat × Value)), lv_has ls nL lv → (∀ ls' : Array Slot, lv_has ls' nL ((i, Value.ref x) :: lv.filter (fun q => !(q.1 == i) && !(q.1 + 1 == i && q.2.category == 2))) → W p l e R s m args below meth c0 H locs cells slots Q (F0 m nx ls' rest)) → W p l e R s m args below meth c0 H locs cells slots Q (F0 m pc ls (.ref x :: rest))) : xq_Op p l e R s m args below meth c0 Q D cl tys z X Ts prog nL cc ret b pc (xi_stA nx i) := by
  intro call L st S x _ hs hx ls ws H locs hL hM
  unfold xi_stA at hs
  split at hs
  · cases hs
    exact row _ _ _ _ _ _ _ _ (xq_lv_has hL) (fun ls' hl' => hx ls' ws H locs (xq_L_st hL hl') hM)
  · cases hs
theorem xk_inc (C : zCx p R s m args meth c0 D cl tys z X Ts own cc nL nm) {pc i : Nat} {n : Int} (hd : decode cc pc = .ok (.iinc i n, 3)) (hi : i < nL) {c : Int32} (hc : Int32.ofInt n = c) : xq_Op p l e R s m args below meth c0 Q D cl tys z X Ts prog nL cc ret b pc (xi_inc (pc + 3) i c) := by
  subst hc
  intro call L st S x _ hs hx ls ws H locs hL hM
  unfold xi_inc at hs
  split at hs
  · rename_i v hv
    cases hs
    have h1 := xq_lv_of (b := b) (i := 0) hv (fun q => by cases q)
    rw [Nat.zero_add] at h1
    obtain ⟨k, hk⟩ := List.getElem?_of_mem h1
    exact lv_iinc C.1 C.2.1 hd (xq_lv_has hL) hk rfl hi rfl (fun ls' hl' => hx ls' ws H locs (xq_L_st (v := .int (v + Int32.ofInt n)) hL hl') hM)
  · cases hs
/-! fields -/
theorem xk_get (C : zCx p R s m args meth c0 D cl tys z X Ts own cc nL nm) {pc ci k : Nat} (row : ∀ (H : Heap) (locs : List Loc) (cells slots : Nat) (ls : Array Slot) (rest : List Value) (ws : va_W) (q0 a : Nat) (fs : List Value) (v : Value), va_P D cl ws H → ws[q0]? = some (a, .inr (ci, fs)) → fs[k]? = some v → W p l e R s m args below meth c0 H locs cells slots Q (F0 m (pc + 3) ls (v :: rest)) → W p l e R s m args below meth c0 H locs cells slots Q (F0 m pc ls (.ref a :: rest))) : xq_Op p l e R s m args below meth c0 Q D cl tys z X Ts prog nL cc ret b pc (xi_get (pc + 3) ci k) := by
  intro call L st S x _ hs hx ls ws H locs hL hM
  unfold xi_get at hs
  split at hs
  · rename_i k0 t
    split at hs
    · rename_i hk
      cases hs
      obtain ⟨vs, h1, h2⟩ := xq_slot hM.1 hk
      exact row _ _ _ _ _ _ ws _ _ _ _ hM.2.1 h1 h2 (hx ls ws H locs hL hM)
    · rename_i hk
      cases hs
      obtain ⟨vs, h1, h2⟩ := xq_slot hM.1 hk
      exact row _ _ _ _ _ _ ws _ _ _ _ hM.2.1 h1 h2 (hx ls ws H locs hL hM)
    · rename_i hk
      cases hs
      obtain ⟨vs, h1, h2⟩ := xq_slot hM.1 hk
      exact row _ _ _ _ _ _ ws _ _ _ _ hM.2.1 h1 h2 (hx ls ws H locs hL hM)
    · rename_i hk
      split at hs
      · cases hs
      · rename_i h0
        cases hs
        obtain ⟨vs, h1, h2⟩ := xq_slot hM.1 hk
        have e : xq_sl b 3 S k0 k = .ref (b (S.2.2 k0 k)) := if_neg h0
        rw [e] at h2
        exact row _ _ _ _ _ _ ws _ _ _ _ hM.2.1 h1 h2 (hx ls ws H locs hL hM)
    · rename_i hk
      cases hs
      obtain ⟨vs, h1, h2⟩ := xq_slot hM.1 hk
      exact row _ _ _ _ _ _ ws _ _ _ _ hM.2.1 h1 h2 (hx ls ws H locs hL hM)
    · cases hs
  · cases hs
theorem xk_putI (C : zCx p R s m args meth c0 D cl tys z X Ts own cc nL nm) {pc ci k : Nat} {ty : FieldType} (ht : ty = .int) (row : ∀ (H : Heap) (locs : List Loc) (cells slots : Nat) (ls : Array Slot) (rest : List Value) (ws : va_W) (q0 a : Nat) (fs : List Value) (v : Value), va_P D cl ws H → va_D (zA z) ws → va_S (zA z) s.heap H locs → ws[q0]? = some (a, .inr (ci, fs)) → k < fs.length → narrow ty v = v → fits ty v = true → (∀ (H1 : Heap) (locs1 : List Loc), va_P D cl (ws.set q0 (a, .inr (ci, fs.set k v))) H1 → va_D (zA z) (ws.set q0 (a, .inr (ci, fs.set k v))) → va_S (zA z) s.heap H1 locs1 → W p l e R s m args below meth c0 H1 locs1 cells slots Q (F0 m (pc + 3) ls rest)) → W p l e R s m args below meth c0 H locs cells slots Q (F0 m pc ls (v :: .ref a :: rest))) : xq_Op p l e R s m args below meth c0 Q D cl tys z X Ts prog nL cc ret b pc (xi_putI (pc + 3) ci k) := by
  intro call L st S x _ hs hx ls ws H locs hL hM
  subst ht
  unfold xi_putI at hs
  split at hs
  · rename_i v k0 t
    split at hs
    · rename_i hk
      cases hs
      obtain ⟨vs, h1, h2⟩ := xq_slot hM.1 hk
      refine row _ _ _ _ _ _ ws _ _ _ _ hM.2.1 hM.2.2.1 hM.2.2.2 h1 (List.getElem?_eq_some_iff.mp h2).1 rfl rfl (fun H1 locs1 hP hD hS => ?_)
      exact hx ls _ H1 locs1 hL ⟨xq_put (S' := (xq_upd S.1 k0 k v, S.2)) hM.1 hk h1 (by show Value.int (xq_upd S.1 k0 k v k0 k) = _; rw [xq_upd_s]; rfl) (fun k' j' h => ⟨xq_upd_n h, rfl, rfl⟩), hP, hD, hS⟩
    · cases hs
  · cases hs
theorem xk_putZ (C : zCx p R s m args meth c0 D cl tys z X Ts own cc nL nm) {pc ci k : Nat} {ty : FieldType} (ht : ty = .boolean) (row : ∀ (H : Heap) (locs : List Loc) (cells slots : Nat) (ls : Array Slot) (rest : List Value) (ws : va_W) (q0 a : Nat) (fs : List Value) (v : Value), va_P D cl ws H → va_D (zA z) ws → va_S (zA z) s.heap H locs → ws[q0]? = some (a, .inr (ci, fs)) → k < fs.length → narrow ty v = v → fits ty v = true → (∀ (H1 : Heap) (locs1 : List Loc), va_P D cl (ws.set q0 (a, .inr (ci, fs.set k v))) H1 → va_D (zA z) (ws.set q0 (a, .inr (ci, fs.set k v))) → va_S (zA z) s.heap H1 locs1 → W p l e R s m args below meth c0 H1 locs1 cells slots Q (F0 m (pc + 3) ls rest)) → W p l e R s m args below meth c0 H locs cells slots Q (F0 m pc ls (v :: .ref a :: rest))) : xq_Op p l e R s m args below meth c0 Q D cl tys z X Ts prog nL cc ret b pc (xi_putZ (pc + 3) ci k) := by
  intro call L st S x _ hs hx ls ws H locs hL hM
  subst ht
  unfold xi_putZ at hs
  split at hs
  · rename_i v k0 t
    split at hs
    · rename_i hk
      split at hs
      · rename_i h01
        cases hs
        obtain ⟨vs, h1, h2⟩ := xq_slot hM.1 hk
        have hnf : narrow .boolean (.int v) = .int v ∧ fits .boolean (.int v) = true := by rcases h01 with rfl | rfl <;> exact ⟨by decide, by decide⟩
        refine row _ _ _ _ _ _ ws _ _ _ _ hM.2.1 hM.2.2.1 hM.2.2.2 h1 (List.getElem?_eq_some_iff.mp h2).1 hnf.1 hnf.2 (fun H1 locs1 hP hD hS => ?_)
        exact hx ls _ H1 locs1 hL ⟨xq_put (S' := (xq_upd S.1 k0 k v, S.2)) hM.1 hk h1 (by show Value.int (xq_upd S.1 k0 k v k0 k) = _; rw [xq_upd_s]; rfl) (fun k' j' h => ⟨xq_upd_n h, rfl, rfl⟩), hP, hD, hS⟩
      · cases hs
    · cases hs
  · cases hs
theorem xk_putJ (C : zCx p R s m args meth c0 D cl tys z X Ts own cc nL nm) {pc ci k : Nat} {ty : FieldType} (ht : ty = .long) (row : ∀ (H : Heap) (locs : List Loc) (cells slots : Nat) (ls : Array Slot) (rest : List Value) (ws : va_W) (q0 a : Nat) (fs : List Value) (v : Value), va_P D cl ws H → va_D (zA z) ws → va_S (zA z) s.heap H locs → ws[q0]? = some (a, .inr (ci, fs)) → k < fs.length → narrow ty v = v → fits ty v = true → (∀ (H1 : Heap) (locs1 : List Loc), va_P D cl (ws.set q0 (a, .inr (ci, fs.set k v))) H1 → va_D (zA z) (ws.set q0 (a, .inr (ci, fs.set k v))) → va_S (zA z) s.heap H1 locs1 → W p l e R s m args below meth c0 H1 locs1 cells slots Q (F0 m (pc + 3) ls rest)) → W p l e R s m args below meth c0 H locs cells slots Q (F0 m pc ls (v :: .ref a :: rest))) : xq_Op p l e R s m args below meth c0 Q D cl tys z X Ts prog nL cc ret b pc (xi_putJ (pc + 3) ci k) := by
  intro call L st S x _ hs hx ls ws H locs hL hM
  subst ht
  unfold xi_putJ at hs
  split at hs
  · rename_i v k0 t
    split at hs
    · rename_i hk
      cases hs
      obtain ⟨vs, h1, h2⟩ := xq_slot hM.1 hk
      refine row _ _ _ _ _ _ ws _ _ _ _ hM.2.1 hM.2.2.1 hM.2.2.2 h1 (List.getElem?_eq_some_iff.mp h2).1 rfl rfl (fun H1 locs1 hP hD hS => ?_)
      exact hx ls _ H1 locs1 hL ⟨xq_put (S' := (S.1, xq_upd S.2.1 k0 k v, S.2.2)) hM.1 hk h1 (by show Value.long (xq_upd S.2.1 k0 k v k0 k) = _; rw [xq_upd_s]; rfl) (fun k' j' h => ⟨rfl, xq_upd_n h, rfl⟩), hP, hD, hS⟩
    · cases hs
  · cases hs
theorem xk_putR (C : zCx p R s m args meth c0 D cl tys z X Ts own cc nL nm) {pc ci k : Nat} {ty : FieldType} (ht : zftag ty = 3) (row : ∀ (H : Heap) (locs : List Loc) (cells slots : Nat) (ls : Array Slot) (rest : List Value) (ws : va_W) (q0 a : Nat) (fs : List Value) (v : Value), va_P D cl ws H → va_D (zA z) ws → va_S (zA z) s.heap H locs → ws[q0]? = some (a, .inr (ci, fs)) → k < fs.length → narrow ty v = v → fits ty v = true → (∀ (H1 : Heap) (locs1 : List Loc), va_P D cl (ws.set q0 (a, .inr (ci, fs.set k v))) H1 → va_D (zA z) (ws.set q0 (a, .inr (ci, fs.set k v))) → va_S (zA z) s.heap H1 locs1 → W p l e R s m args below meth c0 H1 locs1 cells slots Q (F0 m (pc + 3) ls rest)) → W p l e R s m args below meth c0 H locs cells slots Q (F0 m pc ls (v :: .ref a :: rest))) : xq_Op p l e R s m args below meth c0 Q D cl tys z X Ts prog nL cc ret b pc (xi_putR (pc + 3) ci k) := by
  intro call L st S x _ hs hx ls ws H locs hL hM
  unfold xi_putR at hs
  split at hs
  · rename_i v k0 t
    split at hs
    · rename_i hk
      split at hs
      · cases hs
      · rename_i h0
        cases hs
        obtain ⟨vs, h1, h2⟩ := xq_slot hM.1 hk
        have hnf : narrow ty (.ref (b v)) = .ref (b v) ∧ fits ty (.ref (b v)) = true := by cases ty <;> simp [zftag] at ht <;> exact ⟨rfl, rfl⟩
        refine row _ _ _ _ _ _ ws _ _ _ _ hM.2.1 hM.2.2.1 hM.2.2.2 h1 (List.getElem?_eq_some_iff.mp h2).1 hnf.1 hnf.2 (fun H1 locs1 hP hD hS => ?_)
        exact hx ls _ H1 locs1 hL ⟨xq_put (S' := (S.1, S.2.1, xq_upd S.2.2 k0 k v)) hM.1 hk h1 (by show (if xq_upd S.2.2 k0 k v k0 k = 0 then Value.null else .ref (b (xq_upd S.2.2 k0 k v k0 k))) = _; rw [xq_upd_s, if_neg h0]; rfl) (fun k' j' h => ⟨rfl, rfl, xq_upd_n h⟩), hP, hD, hS⟩
    · cases hs
  · cases hs

/-! arrays -/
theorem xk_iald (C : zCx p R s m args meth c0 D cl tys z X Ts own cc nL nm) {pc : Nat} (hd : decode cc pc = .ok (.iaload, 1)) : xq_Op p l e R s m args below meth c0 Q D cl tys z X Ts prog nL cc ret b pc (xi_iald (pc + 1)) := by
  intro call L st S x _ hs hx ls ws H locs hL hM
  unfold xi_iald at hs
  split at hs
  · split at hs
    · rename_i n hk
      split at hs
      · rename_i hi
        cases hs
        obtain ⟨cA, F, hA, h1, h2⟩ := xq_ari hM.1 hk (Or.inl rfl)
        obtain ⟨b1, b2, b3⟩ := xq_in hi
        obtain ⟨t0, ht0⟩ := List.getElem?_of_mem hA
        refine va_iald C.1 C.2.1 C.2.2.2.2.2.1 hM.2.1 _ t0 h1 ht0 b1 hd ?_
        rw [b2, h2 _ b3]
        exact hx ls ws H locs hL hM
      · cases hs
    · cases hs
  · cases hs
theorem xk_lald (C : zCx p R s m args meth c0 D cl tys z X Ts own cc nL nm) {pc : Nat} (hd : decode cc pc = .ok (.laload, 1)) : xq_Op p l e R s m args below meth c0 Q D cl tys z X Ts prog nL cc ret b pc (xi_lald (pc + 1)) := by
  intro call L st S x _ hs hx ls ws H locs hL hM
  unfold xi_lald at hs
  split at hs
  · split at hs
    · rename_i n hk
      split at hs
      · rename_i hi
        cases hs
        obtain ⟨e0, h1, cA, hA, F, rfl, h2⟩ := hM.1 _ _ (xq_ar_at hk)
        obtain ⟨b1, b2, b3⟩ := xq_in hi
        obtain ⟨t0, ht0⟩ := List.getElem?_of_mem hA
        refine va_lald C.1 C.2.1 C.2.2.2.2.2.1 hM.2.1 _ t0 h1 ht0 b1 hd ?_
        rw [b2, h2 _ b3]
        exact hx ls ws H locs hL hM
      · cases hs
    · cases hs
  · cases hs
theorem xk_bald (C : zCx p R s m args meth c0 D cl tys z X Ts own cc nL nm) {pc : Nat} (hd : decode cc pc = .ok (.baload, 1)) : xq_Op p l e R s m args below meth c0 Q D cl tys z X Ts prog nL cc ret b pc (xi_bald (pc + 1)) := by
  intro call L st S x _ hs hx ls ws H locs hL hM
  unfold xi_bald at hs
  split at hs
  · split at hs
    · rename_i n hk
      split at hs
      · rename_i hi
        cases hs
        obtain ⟨cA, F, hA, h1, h2⟩ := xq_ari hM.1 hk (Or.inr (Or.inl rfl))
        obtain ⟨b1, b2, b3⟩ := xq_in hi
        obtain ⟨t0, ht0⟩ := List.getElem?_of_mem hA
        refine va_zald C.1 C.2.1 C.2.2.2.2.2.1 hM.2.1 _ t0 h1 ht0 b1 hd ?_
        rw [b2, h2 _ b3]
        exact hx ls ws H locs hL hM
      · cases hs
    · rename_i n hk
      split at hs
      · rename_i hi
        cases hs
        obtain ⟨cA, F, hA, h1, h2⟩ := xq_ari hM.1 hk (Or.inr (Or.inr rfl))
        obtain ⟨b1, b2, b3⟩ := xq_in hi
        obtain ⟨t0, ht0⟩ := List.getElem?_of_mem hA
        refine va_bald C.1 C.2.1 C.2.2.2.2.2.1 hM.2.1 _ t0 h1 ht0 b1 hd ?_
        rw [b2, h2 _ b3]
        exact hx ls ws H locs hL hM
      · cases hs
    · cases hs
  · cases hs
theorem xk_aald (C : zCx p R s m args meth c0 D cl tys z X Ts own cc nL nm) {pc : Nat} (hd : decode cc pc = .ok (.aaload, 1)) : xq_Op p l e R s m args below meth c0 Q D cl tys z X Ts prog nL cc ret b pc (xi_aald (pc + 1)) := by
  intro call L st S x _ hs hx ls ws H locs hL hM
  unfold xi_aald at hs
  split at hs
  · split at hs
    · rename_i t3 n hk
      split at hs
      · rename_i hi
        cases hs
        obtain ⟨e0, h1, cA, hA, F, rfl, h2⟩ := hM.1 _ _ (xq_ar_at hk)
        obtain ⟨b1, b2, b3⟩ := xq_in hi
        obtain ⟨t0, ht0⟩ := List.getElem?_of_mem hA
        refine va_aldq C.1 C.2.1 C.2.2.2.2.2.1 hM.2.1 _ t0 h1 ht0 b1 hd ?_
        rw [b2, h2 _ b3]
        exact hx ls ws H locs hL hM
      · cases hs
    · cases hs
  · cases hs
theorem xk_iast (C : zCx p R s m args meth c0 D cl tys z X Ts own cc nL nm) {pc : Nat} (hd : decode cc pc = .ok (.iastore, 1)) : xq_Op p l e R s m args below meth c0 Q D cl tys z X Ts prog nL cc ret b pc (xi_iast (pc + 1)) := by
  intro call L st S x _ hs hx ls ws H locs hL hM
  unfold xi_iast at hs
  split at hs
  · split at hs
    · rename_i n hk
      split at hs
      · rename_i hi
        cases hs
        obtain ⟨cA, F, hA, h1, h2⟩ := xq_ari hM.1 hk (Or.inl rfl)
        obtain ⟨b1, b2, b3⟩ := xq_in hi
        obtain ⟨t0, ht0⟩ := List.getElem?_of_mem hA
        refine va_iast C.1 C.2.1 C.2.2.2.2.2.1 hM.2.1 hM.2.2.1 hM.2.2.2 _ t0 h1 ht0 b1 hd (fun H1 locs1 hP hD hS => ?_)
        rw [b2] at hP hD
        exact hx ls _ H1 locs1 hL ⟨xq_ari_set hM.1 hk (Or.inl rfl) hA h1 (xq_upd_ar h2) (fun k' hk' => xq_upd_k hk'), hP, hD, hS⟩
      · cases hs
    · cases hs
  · cases hs
theorem xk_last (C : zCx p R s m args meth c0 D cl tys z X Ts own cc nL nm) {pc : Nat} (hd : decode cc pc = .ok (.lastore, 1)) : xq_Op p l e R s m args below meth c0 Q D cl tys z X Ts prog nL cc ret b pc (xi_last (pc + 1)) := by
  intro call L st S x _ hs hx ls ws H locs hL hM
  unfold xi_last at hs
  split at hs
  · rename_i v i k t
    split at hs
    · rename_i n hk
      split at hs
      · rename_i hi
        cases hs
        obtain ⟨e0, h1, cA, hA, F, rfl, h2⟩ := hM.1 _ _ (xq_ar_at hk)
        obtain ⟨b1, b2, b3⟩ := xq_in hi
        obtain ⟨t0, ht0⟩ := List.getElem?_of_mem hA
        refine va_last C.1 C.2.1 C.2.2.2.2.2.1 hM.2.1 hM.2.2.1 hM.2.2.2 _ t0 h1 ht0 b1 hd (fun H1 locs1 hP hD hS => ?_)
        rw [b2] at hP hD
        refine hx ls _ H1 locs1 hL ⟨xq_r_set hM.1 h1 (xq_ar_at hk) ⟨cA, hA, _, rfl, fun j hj => ?_⟩ (fun k' hk' => ⟨rfl, xq_upd_k hk', rfl⟩), hP, hD, hS⟩
        show vp_updL F i.toInt.toNat v j = xq_upd S.2.1 k i.toInt.toNat v k j
        unfold xq_upd
        by_cases h : j = i.toInt.toNat
        · rw [if_pos ⟨rfl, h⟩]
          exact if_pos h
        · rw [if_neg (fun q => h q.2)]
          exact (if_neg h).trans (h2 j hj)
      · cases hs
    · cases hs
  · cases hs
theorem xk_bast (C : zCx p R s m args meth c0 D cl tys z X Ts own cc nL nm) {pc : Nat} (hd : decode cc pc = .ok (.bastore, 1)) : xq_Op p l e R s m args below meth c0 Q D cl tys z X Ts prog nL cc ret b pc (xi_bast (pc + 1)) := by
  intro call L st S x _ hs hx ls ws H locs hL hM
  unfold xi_bast at hs
  split at hs
  · split at hs
    · rename_i n hk
      split at hs
      · rename_i hi
        cases hs
        obtain ⟨cA, F, hA, h1, h2⟩ := xq_ari hM.1 hk (Or.inr (Or.inl rfl))
        obtain ⟨b1, b2, b3⟩ := xq_in hi
        obtain ⟨t0, ht0⟩ := List.getElem?_of_mem hA
        refine va_zast C.1 C.2.1 C.2.2.2.2.2.1 hM.2.1 hM.2.2.1 hM.2.2.2 _ t0 h1 ht0 b1 hd (fun H1 locs1 hP hD hS => ?_)
        rw [b2] at hP hD
        exact hx ls _ H1 locs1 hL ⟨xq_ari_set hM.1 hk (Or.inr (Or.inl rfl)) hA h1 (xq_upd_ar h2) (fun k' hk' => xq_upd_k hk'), hP, hD, hS⟩
      · cases hs
    · rename_i n hk
      split at hs
      · rename_i hi
        cases hs
        obtain ⟨cA, F, hA, h1, h2⟩ := xq_ari hM.1 hk (Or.inr (Or.inr rfl))
        obtain ⟨b1, b2, b3⟩ := xq_in hi
        obtain ⟨t0, ht0⟩ := List.getElem?_of_mem hA
        refine va_bast C.1 C.2.1 C.2.2.2.2.2.1 hM.2.1 hM.2.2.1 hM.2.2.2 _ t0 h1 ht0 b1 hd (fun H1 locs1 hP hD hS => ?_)
        rw [b2] at hP hD
        exact hx ls _ H1 locs1 hL ⟨xq_ari_set hM.1 hk (Or.inr (Or.inr rfl)) hA h1 (xq_upd_ar h2) (fun k' hk' => xq_upd_k hk'), hP, hD, hS⟩
      · cases hs
    · cases hs
  · cases hs
theorem xq_ae_len {S : xq_S} {k t n : Nat} {cA : ClassId} {e0 : va_E} (h : xq_ae b S k t n cA e0) : ∃ x : vp_A, e0 = .inl (cA, x) ∧ x.1 = n := by
  match t, h with
  | 0, ⟨f, h1, _⟩ => exact ⟨_, h1, rfl⟩
  | 1, ⟨f, h1, _⟩ => exact ⟨_, h1, rfl⟩
  | 2, ⟨f, h1, _⟩ => exact ⟨_, h1, rfl⟩
  | 3, ⟨f, h1, _⟩ => exact ⟨_, h1, rfl⟩
  | _ + 4, ⟨f, h1, _⟩ => exact ⟨_, h1, rfl⟩
theorem xk_len (C : zCx p R s m args meth c0 D cl tys z X Ts own cc nL nm) {pc : Nat} (hd : decode cc pc = .ok (.arraylength, 1)) : xq_Op p l e R s m args below meth c0 Q D cl tys z X Ts prog nL cc ret b pc (xi_len (pc + 1)) := by
  intro call L st S x _ hs hx ls ws H locs hL hM
  unfold xi_len at hs
  split at hs
  · split at hs
    · rename_i t n hk
      cases hs
      obtain ⟨e0, h1, cA, hA, h2⟩ := hM.1 _ _ (xq_ar_at hk)
      obtain ⟨x, rfl, hx0⟩ := xq_ae_len h2
      obtain ⟨t0, ht0⟩ := List.getElem?_of_mem hA
      refine va_alen C.1 C.2.1 C.2.2.2.2.2.1 hM.2.1 _ t0 h1 ht0 rfl hd ?_
      rw [hx0]
      exact hx ls ws H locs hL hM
    · cases hs
  · cases hs
theorem xq_ct_ok : ∀ (st : List Value), ((st.map (xq_v b)).map fun v => v.category).sum = xq_ct st
  | [] => rfl
  | v :: t => by
    show (xq_v b v).category + ((t.map (xq_v b)).map fun v => v.category).sum = v.category + xq_ct t
    rw [xq_ct_ok t, xq_v_cat]
theorem xk_copy (C : zCx p R s m args meth c0 D cl tys z X Ts own cc nL nm) {pc idx : Nat} (hd : decode cc pc = .ok (.invokestatic idx, 3)) (hl : Cond.methodLink own idx arraycopyName ∈ Ts) (hn : Cond.native arraycopyName ∈ Ts) (hst : Cond.static arraycopyName ∈ Ts) (hi : Cond.initialized "java/lang/System" ∈ Ts) (hfw : nativeFrameWords "java/lang/System" "arraycopy" 5 + 11 ≤ 190) : xq_Op p l e R s m args below meth c0 Q D cl tys z X Ts prog nL cc ret b pc (xi_copy (pc + 3)) := by
  intro call L st S x _ hs hx ls ws H locs hL hM
  unfold xi_copy at hs
  split at hs
  · rename_i n dp kd sp ks t
    split at hs
    · rename_i n0 hk0
      split at hs
      · rename_i n1 hk1
        split at hs
        · rename_i hct
          have hct := Nat.le_of_ble_eq_true hct
          split at hs
          · rename_i hg
            obtain ⟨g1, g2, g3, g4, g5⟩ := hg
            cases hs
            obtain ⟨cA, F, hA, h1, h2⟩ := xq_ari hM.1 hk0 (Or.inl rfl)
            obtain ⟨cB, G, hB, k1, k2⟩ := xq_ari hM.1 hk1 (Or.inl rfl)
            obtain ⟨t0, ht0⟩ := List.getElem?_of_mem hA
            obtain ⟨t1, ht1⟩ := List.getElem?_of_mem hB
            have hlo := C.2.2.2.2.2.2.2.2.2.2
            have nn : ∀ y : Int32, 0 ≤ y.toInt → ¬ y < 0 ∧ y.toNatClampNeg = y.toInt.toNat := fun y hy => ⟨by rw [Int32.lt_iff_toInt_lt, Int32.toInt_zero]; omega, rfl⟩
            obtain ⟨s1, s2⟩ := nn sp g1
            obtain ⟨d1, d2⟩ := nn dp g2
            obtain ⟨c1, c2⟩ := nn n g3
            have hct2 := xq_ct_ok (b := b) t
            refine va_copyi C.1 C.2.1 (C.2.2.1.trans hL.1.symm) C.2.2.2.1 (C.2.2.2.2.1 _ hl) (C.2.2.2.2.1 _ hn) (C.2.2.2.2.1 _ hst) (C.2.2.2.2.1 _ hi) C.2.2.2.2.2.1 hM.2.1 hM.2.2.1 hM.2.2.2 _ _ t0 t1 h1 k1 ht0 ht1 rfl s1 d1 c1 (by rw [s2, c2]; omega) (by rw [d2, c2]; omega) (fun _ _ => rfl) C.2.2.2.2.2.2.2.2.2.1 (by rw [hct2]; omega) hd (fun H1 locs1 hP hD hS => ?_)
            rw [s2, d2, c2] at hP hD
            refine hx ls _ H1 locs1 hL ⟨xq_ari_set hM.1 hk1 (Or.inl rfl) hB k1 (fun j hj => ?_) (fun k' hk' => ?_), hP, hD, hS⟩
            · rw [va_cpy]
              unfold xq_cpy
              by_cases hj2 : dp.toInt.toNat ≤ j ∧ j < dp.toInt.toNat + n.toInt.toNat
              · rw [if_pos hj2, if_pos ⟨rfl, hj2⟩]
                exact h2 _ (by omega)
              · rw [if_neg hj2, if_neg (fun q => hj2 q.2)]
                exact k2 j hj
            · funext j
              unfold xq_cpy
              rw [if_neg (fun q => hk' q.1)]
          · cases hs
        · cases hs
      · cases hs
    · cases hs
  · cases hs
/-! switches, answers, calls -/
theorem xk_tab (C : zCx p R s m args meth c0 D cl tys z X Ts own cc nL nm) {pc len d : Nat} {dflt lo hi : Int} {offs : Array Int} {ts : List Nat} (hd : decode cc pc = .ok (.tableswitch dflt lo hi offs, len)) (hdf : (pc : Int) + dflt = (d : Int)) (hhi : hi + 1 = lo + (ts.length : Int)) (hts : ∀ (k t : Nat), ts[k]? = some t → ∃ off : Int, offs[k]? = some off ∧ (pc : Int) + off = (t : Int)) : xq_Op p l e R s m args below meth c0 Q D cl tys z X Ts prog nL cc ret b pc (xi_tab lo ts d) := by
  intro call L st S x _ hs hx ls ws H locs hL hM
  unfold xi_tab at hs
  split at hs
  · rename_i v r
    cases hs
    have key : ∀ (ts : List Nat) (lo x : Int), (lo ≤ x ∧ x < lo + (ts.length : Int) ∧ ∃ t, ts[(x - lo).toNat]? = some t ∧ xq_tb x lo ts d = t) ∨ ((x < lo ∨ lo + (ts.length : Int) ≤ x) ∧ xq_tb x lo ts d = d) := by
      intro ts
      induction ts with
      | nil =>
        intro lo x
        right
        refine ⟨?_, rfl⟩
        show x < lo ∨ lo + ((0 : Nat) : Int) ≤ x
        omega
      | cons t ts ih =>
        intro lo x
        have e : xq_tb x lo (t :: ts) d = if x = lo then t else xq_tb x (lo + 1) ts d := rfl
        have el : ((t :: ts).length : Int) = (ts.length : Int) + 1 := by simp
        by_cases hx : x = lo
        · left
          refine ⟨by omega, by omega, t, ?_, by rw [e, if_pos hx]⟩
          rw [show x - lo = 0 by omega]
          rfl
        · rw [e, if_neg hx]
          rcases ih (lo + 1) x with ⟨h1, h2, t', h3, h4⟩ | ⟨h1, h2⟩
          · left
            refine ⟨by omega, by omega, t', ?_, h4⟩
            rw [show (x - lo).toNat = (x - (lo + 1)).toNat + 1 by omega]
            exact h3
          · right
            exact ⟨by omega, h2⟩
    have hx : xq_W p l e R s m args below meth c0 Q D cl tys z nL b (xq_tb v.toInt lo ts d, L, r, S) := hx
    rcases key ts lo v.toInt with ⟨h1, h2, t, h3, h4⟩ | ⟨h1, h2⟩
    · rw [h4] at hx
      obtain ⟨off, o1, o2⟩ := hts _ _ h3
      exact lv_tableIn C.1 C.2.1 hd (by omega) (by omega) (off := off) o1 o2 (hx ls ws H locs hL hM)
    · rw [h2] at hx
      exact lv_tableOut C.1 C.2.1 hd (by omega) hdf (hx ls ws H locs hL hM)
  · cases hs
theorem xq_lk_eq (x : Int) : ∀ (ts : List (Int × Nat)) (d : Nat), xq_lk x ts d = zlsw x ts d
  | [], d => rfl
  | (v, t) :: ts, d => by
    show (if x = v then t else xq_lk x ts d) = Bool.casesOn (motive := fun _ => Nat) (zle x v && zle v x) (zlsw x ts d) t
    by_cases h : x = v
    · rw [if_pos h]
      have e : (zle x v && zle v x) = true := by rw [Bool.and_eq_true, zle_iff, zle_iff]; omega
      rw [e]
    · rw [if_neg h, xq_lk_eq x ts d]
      have e : (zle x v && zle v x) = false := by rw [Bool.and_eq_false_iff, zle_f, zle_f]; omega
      rw [e]
theorem xk_lsw (C : zCx p R s m args meth c0 D cl tys z X Ts own cc nL nm) {pc len d : Nat} {dflt : Int} {ps : Array (Int × Int)} {ts : List (Int × Nat)} (hd : decode cc pc = .ok (.lookupswitch dflt ps, len)) (hdf : (pc : Int) + dflt = (d : Int)) (hp : (ps.toList.zip (ps.toList.drop 1)).all (fun (a, next) => a.1 < next.1) = true) (hsw : ∀ v : Int, (pc : Int) + Op.lookupswitch.offset ps.toList dflt v = (zlsw v ts d : Int)) : xq_Op p l e R s m args below meth c0 Q D cl tys z X Ts prog nL cc ret b pc (xi_lsw ts d) := by
  intro call L st S x _ hs hx ls ws H locs hL hM
  unfold xi_lsw at hs
  split at hs
  · rename_i v r
    cases hs
    have hx : xq_W p l e R s m args below meth c0 Q D cl tys z nL b (xq_lk v.toInt ts d, L, r, S) := hx
    rw [xq_lk_eq] at hx
    exact lv_lookup C.1 C.2.1 hd hp rfl (hsw _) (hx ls ws H locs hL hM)
  · cases hs
theorem xk_rt0 (C : zCx p R s m args meth c0 D cl tys z X Ts own cc nL nm) {pc : Nat} (hr : ret = none) (hd : decode cc pc = .ok (.return_, 1)) : xq_Op p l e R s m args below meth c0 Q D cl tys z X Ts prog nL cc ret b pc xi_rt0 := by
  intro call L st S x _ hs hx ls ws H locs hL hM
  unfold xi_rt0 at hs
  split at hs
  · cases hs
    exact hx pc ls ws H locs ⟨hr, hd⟩ hM
  · cases hs
theorem xk_rtI (C : zCx p R s m args meth c0 D cl tys z X Ts own cc nL nm) {pc : Nat} (hr : ret = some .int) (hd : decode cc pc = .ok (.ireturn, 1)) : xq_Op p l e R s m args below meth c0 Q D cl tys z X Ts prog nL cc ret b pc xi_rtI := by
  intro call L st S x _ hs hx ls ws H locs hL hM
  unfold xi_rtI at hs
  split at hs
  · cases hs
    exact hx pc ls ws H locs (Or.inl ⟨_, .int, rfl, hr, rfl, hd⟩) hM
  · cases hs
theorem xk_rtZ (C : zCx p R s m args meth c0 D cl tys z X Ts own cc nL nm) {pc : Nat} (hr : ret = some .boolean) (hd : decode cc pc = .ok (.ireturn, 1)) : xq_Op p l e R s m args below meth c0 Q D cl tys z X Ts prog nL cc ret b pc xi_rtZ := by
  intro call L st S x _ hs hx ls ws H locs hL hM
  unfold xi_rtZ at hs
  split at hs
  · rename_i v
    split at hs
    · rename_i h01
      cases hs
      have hnf : narrow .boolean (.int v) = .int v := by rcases h01 with rfl | rfl <;> decide
      exact hx pc ls ws H locs (Or.inl ⟨_, .boolean, rfl, hr, hnf, hd⟩) hM
    · cases hs
  · cases hs
theorem xk_rtJ (C : zCx p R s m args meth c0 D cl tys z X Ts own cc nL nm) {pc : Nat} (hr : ret = some .long) (hd : decode cc pc = .ok (.lreturn, 1)) : xq_Op p l e R s m args below meth c0 Q D cl tys z X Ts prog nL cc ret b pc xi_rtJ := by
  intro call L st S x _ hs hx ls ws H locs hL hM
  unfold xi_rtJ at hs
  split at hs
  · cases hs
    exact hx pc ls ws H locs (Or.inr (Or.inl ⟨_, rfl, hr, hd⟩)) hM
  · cases hs
theorem xq_dr_at : ∀ {ks : List Nat} {L : List Value} {j : Nat} {v : Value}, (xq_dr ks L)[j]? = some v → v ≠ .null → L[j]? = some v
  | [], L, j, v, h, _ => h
  | k :: ks, L, j, v, h, hv => by
    have h1 := xq_dr_at (ks := ks) (L := L.set k .null) h hv
    rw [List.getElem?_set] at h1
    split at h1
    · split at h1
      · cases h1
        exact absurd rfl hv
      · cases h1
    · exact h1
theorem xk_dr {pc : Nat} {ks : List Nat} {sem : xq_I} (h : xq_Op p l e R s m args below meth c0 Q D cl tys z X Ts prog nL cc ret b pc sem) : xq_Op p l e R s m args below meth c0 Q D cl tys z X Ts prog nL cc ret b pc (xi_dr ks sem) := by
  intro call L st S x hco hs hx
  unfold xi_dr at hs
  split at hs
  · rename_i c hc
    cases hs
    exact h call L st S _ hco hc (fun ls ws H locs hL hM => hx ls ws H locs ⟨hL.1, hL.2.1, fun i v hv hn => hL.2.2 i v (xq_dr_at hv hn) hn⟩ hM)
  · rename_i hn
    exact h call L st S x hco hs hx
theorem xq_pp_ok : ∀ {n : Nat} {acc st as rest : List Value}, xq_pp n acc st = some (as, rest) → ∃ xs, as = xs ++ acc ∧ st = xs.reverse ++ rest ∧ xs.length = n
  | 0, acc, st, as, rest, h => by cases h; exact ⟨[], rfl, rfl, rfl⟩
  | n + 1, acc, a :: st, as, rest, h => by
    obtain ⟨xs, h1, h2, h3⟩ := xq_pp_ok (n := n) h
    exact ⟨xs ++ [a], by rw [h1]; simp, by rw [h2]; simp, by simp [h3]⟩
  | _ + 1, _, [], _, _, h => by cases h
theorem xq_call_k {pc mc ms : Nat} {H : Heap} {locs : List Loc} {cells slots : Nat} {ls : Array Slot} {st0 rest : List Value} {r : xq_O} {a : Array Value} (hr : va_Run p l e R s m args below meth c0 H locs cells slots mc ms (F0 m pc ls st0) rest (xq_Q D cl tys z b r a) (zA z)) (hS : va_S (zA z) s.heap H locs)
    (kk : ∀ (ws' : va_W) (H1 : Heap) (locs1 : List Loc), xq_r b cl tys r.2 ws' → va_P D cl ws' H1 → va_D (zA z) ws' → va_S (zA z) s.heap H1 locs1 → W p l e R s m args below meth c0 H1 locs1 (cells + mc) (slots + ms) Q (F0 m (pc + 3) ls ((r.1.map (xq_v b)).toList ++ rest))) : W p l e R s m args below meth c0 H locs cells slots Q (F0 m pc ls st0) := by
  intro T hT Y
  obtain ⟨v, st₀, t, T', L, h0, Y', hL, e1, e2, ⟨⟨hv, ws', q3, q4, q5⟩, hz, hk⟩, st⟩ := hr T hT Y
  cases hv
  rw [h0] at hz hk
  rw [← e1] at q4
  obtain ⟨t2, a1, b1⟩ := kk ws' T'.heap (locs ++ L) q3 q4 q5
    ⟨Nat.le_trans hS.1 (by rw [e1]; exact hz), fun q h1 h2 => by rw [e1, hk q (Nat.lt_of_lt_of_le h1 hS.1) h2]; exact hS.2.1 q h1 h2, fun q hq => by
      rcases List.mem_append.mp hq with h | h
      · exact hS.2.2 q h
      · exact hL q h⟩ T' rfl Y'
  exact ⟨t2, st t2 a1, b1⟩
theorem xq_blind {S : xq_S} {ws : va_W} {vs : List Value} (hX : zXok X z) : FrameBlind (va_Pc vs (xq_St D cl tys z X b S ws)) := by
  intro a U g mk q
  obtain ⟨q0, q1, q2, q3, q4, q5, q6⟩ := q
  exact ⟨q0, q1, q2, q3, va_K.moved (u := U) (U := U.calling g mk a) (Vm.Alike.refl U.vm) q4, hX.1 U _ _ rfl q5, q6⟩
/-- a call's run: what comes behind it -/
theorem xq_run1 (C : zCx p R s m args meth c0 D cl tys z X Ts own cc nL nm) (hX : zXok X z) {pc mi n : Nat} {ci : Option Nat} {mr : zM} {Rc : List Value → Heap → Prop} (hm : zget prog mi = some mr)
    (hrecv : ∀ (as : List Value) (S : xq_S) (ws : va_W) (H : Heap), xq_rc ci as = true → xq_r b cl tys S ws → va_P D cl ws H → Rc (as.map (xq_v b)) H)
    (row : ∀ (H : Heap) (locs : List Loc) (cells slots : Nat) (ls : Array Slot) (As rest : List Value) (fr lo : Nat) (Pc : Array Value → State → Prop) (Qc : Array Value → State → Outcome → State → Prop), Met l mr.1 (.code mr.1 mr.2.1 mr.2.2.1 mr.2.2.2.1 :: Ts) { frames := fr, cells := mr.2.2.2.2.1, slots := mr.2.2.2.2.2.1, locals := lo } Pc Qc mr.2.2.2.2.1 mr.2.2.2.2.2.1 (zA z) → fr + 1 ≤ R.frames → 8 + (mr.2.2.1 + 11) + lo ≤ R.locals → FrameBlind Pc → (∀ U : State, U.heap = H → s.WarmedH U.vm → Pc As.toArray U) → Rc As H → As.length = n → ls.size = nL → 2 * (F0 m pc ls (As.reverse ++ rest)).monitorRoom + (rest.map fun v => v.category).sum ≤ 8 → cells + mr.2.2.2.2.1 ≤ R.cells ∧ slots + mr.2.2.2.2.2.1 ≤ R.slots →
      va_Run p l e R s m args below meth c0 H locs cells slots mr.2.2.2.2.1 mr.2.2.2.2.2.1 (F0 m pc ls (As.reverse ++ rest)) rest (Qc As.toArray) (zA z))
    {call : xq_F} (hco : xq_Co l D cl tys z X Ts prog R b call) {L st as rest : List Value} {S : xq_S} {r : xq_O} (hp : xq_pp n [] st = some (as, rest)) (hcnt : (Nat.ble (xq_ct rest) 8 && xq_rc ci as) = true) (hcall : call mi as S = some r) {ls : Array Slot} {ws : va_W} {H : Heap} {locs : List Loc} (hL : xq_L b nL ls L) (hM : xq_M b D cl tys z s.heap S ws H locs)
    (kk : ∀ (ws' : va_W) (H1 : Heap) (locs1 : List Loc), xq_M b D cl tys z s.heap r.2 ws' H1 locs1 → W p l e R s m args below meth c0 H1 locs1 0 0 Q (F0 m (pc + 3) ls ((r.1.map (xq_v b)).toList ++ rest.map (xq_v b)))) : W p l e R s m args below meth c0 H locs 0 0 Q (F0 m pc ls (st.map (xq_v b))) := by
  rw [Bool.and_eq_true] at hcnt
  have c1 := Nat.le_of_ble_eq_true hcnt.1
  obtain ⟨xs, e1, e2, e3⟩ := xq_pp_ok hp
  rw [List.append_nil] at e1
  subst e1
  subst e2
  obtain ⟨m1, m2, fr, lo, f1, f2, hMt⟩ := hco.2 mi mr as S r hm hcall
  have hM' := hMt ws hM.1
  have hct := xq_ct_ok (b := b) rest
  have hrun := row H locs 0 0 ls (as.map (xq_v b)) (rest.map (xq_v b)) fr lo _ _ hM' f1 f2 (xq_blind hX) (fun U hU hW => ⟨rfl, hM.1, by rw [hU]; exact hM.2.1, hM.2.2.1, va_K.moved hW.alike C.2.2.2.2.2.1, by rw [hU]; exact hX.2.1 s U H hW (hX.2.2 s s.heap H C.2.2.2.2.2.2.2.2.1 (fun q hq => hM.2.2.2.2.1 q (Nat.lt_of_lt_of_le hq C.2.2.2.2.2.2.2.2.1) (Nat.not_le.mpr hq)) C.2.2.2.2.2.2.2.1), by rw [hU]; exact Nat.le_trans C.2.2.2.2.2.2.2.2.1 hM.2.2.2.1⟩) (hrecv as S ws H hcnt.2 hM.1 hM.2.1) (by rw [List.length_map]; exact e3) hL.1 (lv_room (by rw [hct]; exact c1)) ⟨by rw [m1]; exact Nat.zero_le _, by rw [m2]; exact Nat.zero_le _⟩
  have es : (as.reverse ++ rest).map (xq_v b) = (as.map (xq_v b)).reverse ++ rest.map (xq_v b) := by rw [List.map_append, List.map_reverse]
  rw [es]
  refine xq_call_k hrun hM.2.2.2 (fun ws' H1 locs1 q1 q2 q3 q4 => ?_)
  rw [m1, m2]
  exact kk ws' H1 locs1 ⟨q1, q2, q3, q4⟩
theorem xk_cI (C : zCx p R s m args meth c0 D cl tys z X Ts own cc nL nm) (hX : zXok X z) {pc mi n : Nat} {ci : Option Nat} {mr : zM} {Rc : List Value → Heap → Prop} (hm : zget prog mi = some mr)
    (hrecv : ∀ (as : List Value) (S : xq_S) (ws : va_W) (H : Heap), xq_rc ci as = true → xq_r b cl tys S ws → va_P D cl ws H → Rc (as.map (xq_v b)) H)
    (row : ∀ (H : Heap) (locs : List Loc) (cells slots : Nat) (ls : Array Slot) (As rest : List Value) (fr lo : Nat) (Pc : Array Value → State → Prop) (Qc : Array Value → State → Outcome → State → Prop), Met l mr.1 (.code mr.1 mr.2.1 mr.2.2.1 mr.2.2.2.1 :: Ts) { frames := fr, cells := mr.2.2.2.2.1, slots := mr.2.2.2.2.2.1, locals := lo } Pc Qc mr.2.2.2.2.1 mr.2.2.2.2.2.1 (zA z) → fr + 1 ≤ R.frames → 8 + (mr.2.2.1 + 11) + lo ≤ R.locals → FrameBlind Pc → (∀ U : State, U.heap = H → s.WarmedH U.vm → Pc As.toArray U) → Rc As H → As.length = n → ls.size = nL → 2 * (F0 m pc ls (As.reverse ++ rest)).monitorRoom + (rest.map fun v => v.category).sum ≤ 8 → cells + mr.2.2.2.2.1 ≤ R.cells ∧ slots + mr.2.2.2.2.2.1 ≤ R.slots →
      va_Run p l e R s m args below meth c0 H locs cells slots mr.2.2.2.2.1 mr.2.2.2.2.2.1 (F0 m pc ls (As.reverse ++ rest)) rest (Qc As.toArray) (zA z)) : xq_Op p l e R s m args below meth c0 Q D cl tys z X Ts prog nL cc ret b pc (xi_cI (pc + 3) mi n ci) := by
  intro call L st S x hco hs hx ls ws H locs hL hM
  unfold xi_cI at hs
  split at hs
  · rename_i as rest hp
    split at hs
    · rename_i hcnt
      unfold xq_bI at hs
      split at hs
      · rename_i v S' hcall
        cases hs
        exact xq_run1 C hX hm hrecv row hco hp hcnt hcall hL hM (fun ws' H1 locs1 hM' => hx ls ws' H1 locs1 hL hM')
      · cases hs
    · cases hs
  · cases hs
theorem xk_cJ (C : zCx p R s m args meth c0 D cl tys z X Ts own cc nL nm) (hX : zXok X z) {pc mi n : Nat} {ci : Option Nat} {mr : zM} {Rc : List Value → Heap → Prop} (hm : zget prog mi = some mr)
    (hrecv : ∀ (as : List Value) (S : xq_S) (ws : va_W) (H : Heap), xq_rc ci as = true → xq_r b cl tys S ws → va_P D cl ws H → Rc (as.map (xq_v b)) H)
    (row : ∀ (H : Heap) (locs : List Loc) (cells slots : Nat) (ls : Array Slot) (As rest : List Value) (fr lo : Nat) (Pc : Array Value → State → Prop) (Qc : Array Value → State → Outcome → State → Prop), Met l mr.1 (.code mr.1 mr.2.1 mr.2.2.1 mr.2.2.2.1 :: Ts) { frames := fr, cells := mr.2.2.2.2.1, slots := mr.2.2.2.2.2.1, locals := lo } Pc Qc mr.2.2.2.2.1 mr.2.2.2.2.2.1 (zA z) → fr + 1 ≤ R.frames → 8 + (mr.2.2.1 + 11) + lo ≤ R.locals → FrameBlind Pc → (∀ U : State, U.heap = H → s.WarmedH U.vm → Pc As.toArray U) → Rc As H → As.length = n → ls.size = nL → 2 * (F0 m pc ls (As.reverse ++ rest)).monitorRoom + (rest.map fun v => v.category).sum ≤ 8 → cells + mr.2.2.2.2.1 ≤ R.cells ∧ slots + mr.2.2.2.2.2.1 ≤ R.slots →
      va_Run p l e R s m args below meth c0 H locs cells slots mr.2.2.2.2.1 mr.2.2.2.2.2.1 (F0 m pc ls (As.reverse ++ rest)) rest (Qc As.toArray) (zA z)) : xq_Op p l e R s m args below meth c0 Q D cl tys z X Ts prog nL cc ret b pc (xi_cJ (pc + 3) mi n ci) := by
  intro call L st S x hco hs hx ls ws H locs hL hM
  unfold xi_cJ at hs
  split at hs
  · rename_i as rest hp
    split at hs
    · rename_i hcnt
      unfold xq_bJ at hs
      split at hs
      · rename_i v S' hcall
        cases hs
        exact xq_run1 C hX hm hrecv row hco hp hcnt hcall hL hM (fun ws' H1 locs1 hM' => hx ls ws' H1 locs1 hL hM')
      · cases hs
    · cases hs
  · cases hs
theorem xk_cV (C : zCx p R s m args meth c0 D cl tys z X Ts own cc nL nm) (hX : zXok X z) {pc mi n : Nat} {ci : Option Nat} {mr : zM} {Rc : List Value → Heap → Prop} (hm : zget prog mi = some mr)
    (hrecv : ∀ (as : List Value) (S : xq_S) (ws : va_W) (H : Heap), xq_rc ci as = true → xq_r b cl tys S ws → va_P D cl ws H → Rc (as.map (xq_v b)) H)
    (row : ∀ (H : Heap) (locs : List Loc) (cells slots : Nat) (ls : Array Slot) (As rest : List Value) (fr lo : Nat) (Pc : Array Value → State → Prop) (Qc : Array Value → State → Outcome → State → Prop), Met l mr.1 (.code mr.1 mr.2.1 mr.2.2.1 mr.2.2.2.1 :: Ts) { frames := fr, cells := mr.2.2.2.2.1, slots := mr.2.2.2.2.2.1, locals := lo } Pc Qc mr.2.2.2.2.1 mr.2.2.2.2.2.1 (zA z) → fr + 1 ≤ R.frames → 8 + (mr.2.2.1 + 11) + lo ≤ R.locals → FrameBlind Pc → (∀ U : State, U.heap = H → s.WarmedH U.vm → Pc As.toArray U) → Rc As H → As.length = n → ls.size = nL → 2 * (F0 m pc ls (As.reverse ++ rest)).monitorRoom + (rest.map fun v => v.category).sum ≤ 8 → cells + mr.2.2.2.2.1 ≤ R.cells ∧ slots + mr.2.2.2.2.2.1 ≤ R.slots →
      va_Run p l e R s m args below meth c0 H locs cells slots mr.2.2.2.2.1 mr.2.2.2.2.2.1 (F0 m pc ls (As.reverse ++ rest)) rest (Qc As.toArray) (zA z)) : xq_Op p l e R s m args below meth c0 Q D cl tys z X Ts prog nL cc ret b pc (xi_cV (pc + 3) mi n ci) := by
  intro call L st S x hco hs hx ls ws H locs hL hM
  unfold xi_cV at hs
  split at hs
  · rename_i as rest hp
    split at hs
    · rename_i hcnt
      unfold xq_bV at hs
      split at hs
      · rename_i S' hcall
        cases hs
        exact xq_run1 C hX hm hrecv row hco hp hcnt hcall hL hM (fun ws' H1 locs1 hM' => hx ls ws' H1 locs1 hL hM')
      · cases hs
    · cases hs
  · cases hs
theorem xk_m2 (C : zCx p R s m args meth c0 D cl tys z X Ts own cc nL nm) {pc nx : Nat} {g : Int32 → Int32 → Int32} (row : ∀ (H : Heap) (locs : List Loc) (cells slots : Nat) (ls : Array Slot) (rest : List Value) (x y : Int32), c0.maxLocals = ls.size → 1 ≤ R.frames → (rest.map fun v => v.category).sum + 13 ≤ R.locals → cells ≤ R.cells → slots ≤ R.slots → W p l e R s m args below meth c0 H locs cells slots Q (F0 m nx ls (.int (g x y) :: rest)) → W p l e R s m args below meth c0 H locs cells slots Q (F0 m pc ls (.int y :: .int x :: rest))) : xq_Op p l e R s m args below meth c0 Q D cl tys z X Ts prog nL cc ret b pc (xi_m2 nx g) := by
  intro call L st S x _ hs hx ls ws H locs hL hM
  unfold xi_m2 at hs
  split at hs
  · rename_i v2 v1 t
    split at hs
    · rename_i hct
      have hct := Nat.le_of_ble_eq_true hct
      have hct2 := xq_ct_ok (b := b) t
      have hlo := C.2.2.2.2.2.2.2.2.2.2
      cases hs
      exact row _ _ _ _ _ _ _ _ (C.2.2.1.trans hL.1.symm) C.2.2.2.2.2.2.2.2.2.1 (by rw [hct2]; omega) (Nat.zero_le _) (Nat.zero_le _) (hx ls ws H locs hL hM)
    · cases hs
  · cases hs
theorem xk_m1 (C : zCx p R s m args meth c0 D cl tys z X Ts own cc nL nm) {pc nx : Nat} {g : Int32 → Int32} (row : ∀ (H : Heap) (locs : List Loc) (cells slots : Nat) (ls : Array Slot) (rest : List Value) (x : Int32), c0.maxLocals = ls.size → 1 ≤ R.frames → (rest.map fun v => v.category).sum + 13 ≤ R.locals → cells ≤ R.cells → slots ≤ R.slots → W p l e R s m args below meth c0 H locs cells slots Q (F0 m nx ls (.int (g x) :: rest)) → W p l e R s m args below meth c0 H locs cells slots Q (F0 m pc ls (.int x :: rest))) : xq_Op p l e R s m args below meth c0 Q D cl tys z X Ts prog nL cc ret b pc (xi_m1 nx g) := by
  intro call L st S x _ hs hx ls ws H locs hL hM
  unfold xi_m1 at hs
  split at hs
  · rename_i v1 t
    split at hs
    · rename_i hct
      have hct := Nat.le_of_ble_eq_true hct
      have hct2 := xq_ct_ok (b := b) t
      have hlo := C.2.2.2.2.2.2.2.2.2.2
      cases hs
      exact row _ _ _ _ _ _ _ (C.2.2.1.trans hL.1.symm) C.2.2.2.2.2.2.2.2.2.1 (by rw [hct2]; omega) (Nat.zero_le _) (Nat.zero_le _) (hx ls ws H locs hL hM)
    · cases hs
  · cases hs
theorem xq_recv {ci : Nat} {Cn : String} {T : u_T} {N : Nat} {U : State} (hK : va_K D cl tys U) (hcl : cl[ci]? = some (Cn, T, N)) {as : List Value} {S : xq_S} {ws : va_W} {H : Heap} (h1 : xq_rc (some ci) as = true) (h2 : xq_r b cl tys S ws) (h3 : va_P D cl ws H) : ∃ b0 As, as.map (xq_v b) = .ref b0 :: As ∧ ∃ cell : Cell, H[b0]? = some cell ∧ cell.vm.isStatics = false ∧ U.vm.findClass Cn = some cell.cls := by
  unfold xq_rc at h1
  split at h1
  · rename_i h9
    cases h9
  · rename_i c h9
    cases h9
    split at h1
    · rename_i k t
      unfold xq_cl at h1
      split at h1
      · rename_i q hq
        have e := Nat.eq_of_beq_eq_true h1
        obtain ⟨c, ks⟩ := q
        have e : c = ci := e
        subst e
        obtain ⟨e0, he, vs, rfl, -⟩ := h2 k _ hq
        exact ⟨b k, t.map (xq_v b), rfl, va_recv hK h3 hcl he⟩
      · cases h1
    · cases h1
/-! a method's run -/
theorem xq_run_W {call : xq_F} {code : xq_K} {r : xq_O} (hco : xq_Co l D cl tys z X Ts prog R b call) (hops : ∀ pc sem, zrget code pc = some (some sem) → xq_Op p l e R s m args below meth c0 Q D cl tys z X Ts prog nL cc ret b pc sem) (hr : xq_R p l e R s m args below meth c0 Q D cl tys z cc ret b r) : ∀ (n : Nat) (c : xq_C), xq_run call code n c = some r → xq_W p l e R s m args below meth c0 Q D cl tys z nL b c
  | 0, c, h => by cases h
  | n + 1, c, h => by
    have h : (match xq_st call code c with
      | none => none
      | some (.inl c') => xq_run call code n c'
      | some (.inr r) => some r) = some r := h
    have hstep : ∀ x, xq_st call code c = some x → xq_X p l e R s m args below meth c0 Q D cl tys z nL cc ret b x → xq_W p l e R s m args below meth c0 Q D cl tys z nL b c := by
      intro x hx hX
      obtain ⟨pc, L, st, S⟩ := c
      have hx : (match zrget code pc with
        | some (some sem) => sem call L st S
        | _ => none) = some x := hx
      split at hx
      · rename_i sem hs
        exact hops _ _ hs call _ _ _ x hco hx hX
      · cases hx
    split at h
    · cases h
    · rename_i c' hc
      exact hstep _ hc (xq_run_W hco hops hr n c' h)
    · rename_i r' hc
      cases h
      exact hstep _ hc hr
/-- arguments as locals -/
def xq_as : Nat → List Value → List Value
  | n, [] => List.replicate n .null
  | n, v :: t => if v.category = 2 then v :: .null :: xq_as (n - 2) t else v :: xq_as (n - 1) t
theorem xq_as_ok : ∀ {vs : List Value} {n i j : Nat} {v : Value}, (xq_as n vs)[j]? = some v → v ≠ .null → (i + j, xq_v b v) ∈ lv_args i (vs.map (xq_v b))
  | [], n, i, j, v, h, hv => by
    unfold xq_as at h
    rw [List.getElem?_replicate] at h
    split at h
    · cases h
      exact absurd rfl hv
    · cases h
  | w :: t, n, i, j, v, h, hv => by
    unfold xq_as at h
    have e : lv_args i ((w :: t).map (xq_v b)) = (i, xq_v b w) :: lv_args (if w.category = 2 then i + 2 else i + 1) (t.map (xq_v b)) := by
      show (i, xq_v b w) :: lv_args (if (xq_v b w).category = 2 then i + 2 else i + 1) (t.map (xq_v b)) = _
      rw [xq_v_cat]
    rw [e]
    split at h
    · rename_i hc
      rw [if_pos hc]
      match j, h with
      | 0, h => cases h; exact List.mem_cons_self
      | 1, h => cases h; exact absurd rfl hv
      | j + 2, h =>
        have h1 := xq_as_ok (vs := t) (n := n - 2) (i := i + 2) (j := j) h hv
        rw [show i + 2 + j = i + (j + 2) by omega] at h1
        exact List.mem_cons_of_mem _ h1
    · rename_i hc
      rw [if_neg hc]
      match j, h with
      | 0, h => cases h; exact List.mem_cons_self
      | j + 1, h =>
        have h1 := xq_as_ok (vs := t) (n := n - 1) (i := i + 1) (j := j) h hv
        rw [show i + 1 + j = i + (j + 1) by omega] at h1
        exact List.mem_cons_of_mem _ h1
theorem xq_sl_len : ∀ (vs : List Value), (lg_sl (vs.map (xq_v b))).length = xq_ct vs
  | [] => rfl
  | v :: t => by
    have e := xq_sl_len t
    unfold lg_sl at e ⊢
    rw [List.map_cons, List.flatMap_cons, List.length_append, e, xq_v_cat]
    rcases lv_cat v with h | h
    · rw [h]
      simp [xq_ct, h]
    · rw [h]
      simp [xq_ct, h]
theorem xq_meth (hX : zXok X z) {mr : zM} (hy : plainName mr.1.cls = true) {code : xq_K} (hops : ∀ (p : Program) (e : Env) (R : Room) (s : State) (m : MethodId) (args : Array Value) (below : List Frame) (meth : Method) (c0 : Code) (Q : State → Prop), zCx p R s m args meth c0 D cl tys z X Ts mr.1.cls mr.2.1 mr.2.2.1 mr.1.name → ∀ pc sem, zrget code pc = some (some sem) → xq_Op p l e R s m args below meth c0 Q D cl tys z X Ts prog mr.2.2.1 mr.2.1 mr.2.2.2.1 b pc sem) {fr lo : Nat} (k0 : 1 ≤ fr) (k1 : 200 ≤ lo) {call : xq_F} (hco : xq_Co l D cl tys z X Ts prog { frames := fr, cells := mr.2.2.2.2.1, slots := mr.2.2.2.2.2.1, locals := lo } b call) {vs : List Value} (hct : xq_ct vs ≤ mr.2.2.1) {S : xq_S} {r : xq_O} {n : Nat} (h : xq_run call code n (0, xq_as mr.2.2.1 vs, [], S) = some r) : xq_Mt l D cl tys z X Ts b mr fr lo vs S r := by
  intro ws hws
  refine Met.ofW (cc := mr.2.1) (maxL := mr.2.2.1) (ret := mr.2.2.2.1) hy rfl ?_
  intro p' e' s' m' args' below' meth' c' s₁ B hml hv
  obtain ⟨rfl, v1, v2, v3, v4, v5, v6⟩ := hv
  have hts := atoms_spec B.pre
  have CX' : zCx p' { frames := fr, cells := mr.2.2.2.2.1, slots := mr.2.2.2.2.2.1, locals := lo } s' m' (vs.map (xq_v b)).toArray meth' c' D cl tys z X Ts mr.1.cls mr.2.1 mr.2.2.1 mr.1.name := ⟨B.exec, B.bytes, hml, findClass_of_methodNamed B.named, fun w hw => hts w (List.mem_cons_of_mem _ hw), v4, (name_of_methodNamed B.named B.method).1, v5, v6, k0, k1⟩
  have hl := lv_entry (vs.map (xq_v b)) (n := mr.2.2.1) (by rw [xq_sl_len]; exact hct)
  rw [lg_entry_eq]
  refine xq_run_W hco (hops p' e' _ s' m' _ below' meth' c' _ CX') ?_ n _ h _ ws s'.heap [] ⟨hl.1, hl.2.1, fun i v hi hn => ?_⟩ ⟨v1, v2, v3, va_S.rf⟩
  · intro pc ls ws' H locs q9 q
    have hq : ∀ t : State, t.heap = H → s'.WarmedH t.vm → xq_Q D cl tys z b r (vs.map (xq_v b)).toArray s' (.returned (r.1.map (xq_v b))) t := fun t ht _ => ⟨⟨rfl, ws', q.1, by rw [ht]; exact q.2.1, q.2.2.1⟩, q.2.2.2.F ht⟩
    refine W.widen (k := mr.2.2.2.2.1) (n := mr.2.2.2.2.2.1) (Nat.zero_le _) (Nat.zero_le _) ?_
    generalize hrv : r.1.map (xq_v b) = rv at q9 hq ⊢
    cases rv with
    | none =>
      obtain ⟨e1, e2⟩ := q9
      exact W.vret B.exec B.bytes (B.returns.trans e1) hq q.2.2.2.2.2 e2 B.notSynchronized
    | some w =>
      rcases q9 with ⟨x, ty, rfl, e1, e2, e3⟩ | ⟨x, rfl, e1, e3⟩ | ⟨x, rt, rfl, e1, e2, e3⟩
      · exact W.zret B.exec B.bytes (B.returns.trans e1) e2 hq q.2.2.2.2.2 e3 B.notSynchronized
      · exact W.lret B.exec B.bytes (B.returns.trans e1) hq q.2.2.2.2.2 e3 B.notSynchronized
      · exact W.aret B.exec B.bytes (B.returns.trans e1) e2 (Or.inr ⟨x, rfl⟩) hq q.2.2.2.2.2 e3 B.notSynchronized
  · have h1 := xq_as_ok (b := b) (i := 0) hi hn
    rw [Nat.zero_add] at h1
    exact hl.2.2 _ h1
/-- all methods, calls as deep as d -/
noncomputable def xq_D (xp : List (Option (Nat × xq_K))) : Nat → xq_F
  | 0 => fun _ _ _ => none
  | d + 1 => fun mi vs S => match zget xp mi with
    | some (some q) => (match Nat.ble (xq_ct vs) q.1 with
      | true => xq_E (xq_D xp d) q.2 (0, xq_as q.1 vs, [], S)
      | false => none)
    | _ => none
noncomputable def xq_Pok (l : Launch) (D : va_G) (cl : List vw_C) (tys : List (ClassId × FieldType)) (z : Nat) (X : State → Heap → Prop) (Ts : List Cond) (prog : List zM) (b : Nat → Nat) (xp : List (Option (Nat × xq_K))) : Prop :=
  ∀ mi q mr, zget xp mi = some (some q) → zget prog mi = some mr → mr.2.2.1 = q.1 ∧ mr.2.2.1 ≤ 40 ∧ mr.2.2.2.2.1 = 0 ∧ mr.2.2.2.2.2.1 = 0 ∧ plainName mr.1.cls = true ∧ ∀ (p : Program) (e : Env) (R : Room) (s : State) (m : MethodId) (args : Array Value) (below : List Frame) (meth : Method) (c0 : Code) (Q : State → Prop), zCx p R s m args meth c0 D cl tys z X Ts mr.1.cls mr.2.1 mr.2.2.1 mr.1.name → ∀ pc sem, zrget q.2 pc = some (some sem) → xq_Op p l e R s m args below meth c0 Q D cl tys z X Ts prog mr.2.2.1 mr.2.1 mr.2.2.2.1 b pc sem
theorem xq_D_ok (hX : zXok X z) {xp : List (Option (Nat × xq_K))} (hxp : xq_Pok l D cl tys z X Ts prog b xp) : ∀ (d mi : Nat) (mr : zM) (vs : List Value) (S : xq_S) (r : xq_O), zget prog mi = some mr → xq_D xp d mi vs S = some r → ∀ fr lo, d + 12 ≤ fr → 2000 + 60 * d ≤ lo → xq_Mt l D cl tys z X Ts b mr fr lo vs S r
  | 0, mi, mr, vs, S, r, hm, h, fr, lo, hf, hl => by cases h
  | d + 1, mi, mr, vs, S, r, hm, h, fr, lo, hf, hl => by
    have h : (match zget xp mi with
      | some (some q) => (match Nat.ble (xq_ct vs) q.1 with
        | true => xq_E (xq_D xp d) q.2 (0, xq_as q.1 vs, [], S)
        | false => none)
      | _ => none) = some r := h
    split at h
    · rename_i q hq
      split at h
      · rename_i hct
        have hct := Nat.le_of_ble_eq_true hct
        obtain ⟨g1, g2, g3, g4, g5, g6⟩ := hxp mi q mr hq hm
        rw [xq_E_iff] at h
        obtain ⟨n, hn⟩ := h
        rw [← g1] at hn hct
        refine xq_meth hX g5 g6 (by omega) (by omega) ⟨⟨by show 12 ≤ fr; omega, by show 2000 ≤ lo; omega⟩, ?_⟩ hct hn
        intro mi' mr' vs' S' r' hm' h'
        cases d with
        | zero => cases h'
        | succ d =>
          have h9 := h'
          have h' : (match zget xp mi' with
            | some (some q) => (match Nat.ble (xq_ct vs') q.1 with
              | true => xq_E (xq_D xp d) q.2 (0, xq_as q.1 vs', [], S')
              | false => none)
            | _ => none) = some r' := h'
          split at h'
          · rename_i q' hq'
            obtain ⟨k1, k2, k3, k4, -⟩ := hxp mi' q' mr' hq' hm'
            refine ⟨k3, k4, fr - 1, lo - (19 + mr'.2.2.1), by show fr - 1 + 1 ≤ fr; omega, by show 8 + (mr'.2.2.1 + 11) + (lo - (19 + mr'.2.2.1)) ≤ lo; omega, ?_⟩
            exact xq_D_ok hX hxp (d + 1) mi' mr' vs' S' r' hm' h9 (fr - 1) (lo - (19 + mr'.2.2.1)) (by omega) (by omega)
          · cases h'
      · cases h
    · cases h
end XQM
