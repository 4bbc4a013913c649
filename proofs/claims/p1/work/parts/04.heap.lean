/-! FIELDS, ARRAYS, NEW CELLS, CALLS, ANSWERS -/
noncomputable def zo_get (nx ci k : Nat) : zSem := fun _ _ go c => match c with
  | (al, .inr (.inr (.inl q)) :: st, h, n) => match zrget h.2 q with
    | some (.inr (ci', fs)) => if Nat.beq ci' ci then (match zget fs k with
      | some a => go nx (al, a :: st, h, n)
      | none => false) else false
    | _ => false
  | _ => false
/-- what a field takes: 0 an int, 1 a long, 2 a boolean, 3 a reference -/
def zfit (t : Nat) (a : zAV) : Bool := match a with
  | .inl q => Nat.beq t 0 || (Nat.beq t 2 && (zle 0 q.1.1 && zle q.1.2 1))
  | .inr (.inl _) => Nat.beq t 1
  | .inr (.inr _) => Nat.beq t 3
def zftag (ty : FieldType) : Nat := match ty with
  | .int => 0
  | .long => 1
  | .boolean => 2
  | .object _ => 3
  | .array _ => 3
  | _ => 9
noncomputable def zo_put (nx ci k t : Nat) : zSem := fun _ _ go c => match c with
  | (al, a :: .inr (.inr (.inl q)) :: st, h, n) => match zrget h.2 q with
    | some (.inr (ci', fs)) => if Nat.beq ci' ci && (zfit t a && Nat.blt k fs.length) then zfr (zrset h.2 q (.inr (ci', zset fs a k))) q (go nx (al, st, (h.1, zrset h.2 q (.inr (ci', zset fs a k))), n)) else false
    | _ => false
  | _ => false
noncomputable def zo_ald (nx t : Nat) : zSem := fun _ _ go c => match c with
  | (al, .inl i :: .inr (.inr (.inl q)) :: st, h, n) => match zrget h.2 q with
    | some (.inl (t', len, r)) => if Nat.beq t' t && (zle i.1.2 i.1.1 && (zle 0 i.1.1 && zle (i.1.1 + 1) (Int.ofNat len))) then (match zrget r i.1.1.toNat with
      | some a => go nx (al, a :: st, h, n)
      | none => false) else false
    | _ => false
  | _ => false
/-- a reference out of an array: any array of references -/
noncomputable def zo_aald (nx : Nat) : zSem := fun _ _ go c => match c with
  | (al, .inl i :: .inr (.inr (.inl q)) :: st, h, n) => match zrget h.2 q with
    | some (.inl (t', len, r)) => if Nat.ble 4 t' && (zle i.1.2 i.1.1 && (zle 0 i.1.1 && zle (i.1.1 + 1) (Int.ofNat len))) then (match zrget r i.1.1.toNat with
      | some a => go nx (al, a :: st, h, n)
      | none => false) else false
    | _ => false
  | _ => false
noncomputable def zo_ast (nx t : Nat) : zSem := fun _ _ go c => match c with
  | (al, a :: .inl i :: .inr (.inr (.inl q)) :: st, h, n) => match zrget h.2 q with
    | some (.inl (t', len, r)) => if Nat.beq t' t && (zfit t a && (zle i.1.2 i.1.1 && (zle 0 i.1.1 && zle (i.1.1 + 1) (Int.ofNat len)))) then zfr (zrset r i.1.1.toNat a) i.1.1.toNat (zfr (zrset h.2 q (.inl (t', len, zrset r i.1.1.toNat a))) q (go nx (al, st, (h.1, zrset h.2 q (.inl (t', len, zrset r i.1.1.toNat a))), n))) else false
    | _ => false
  | _ => false
/-- an object of ours into an array of its kind -/
noncomputable def zo_aast (nx : Nat) : zSem := fun _ _ go c => match c with
  | (al, .inr (.inr (.inl v)) :: .inl i :: .inr (.inr (.inl q)) :: st, h, n) => match zrget h.2 q with
    | some (.inl (t', len, r)) => (match zrget h.2 v with
      | some (.inr (ci, _)) => if Nat.beq t' (ci + 4) && (zle i.1.2 i.1.1 && (zle 0 i.1.1 && zle (i.1.1 + 1) (Int.ofNat len))) then zfr (zrset r i.1.1.toNat (.inr (.inr (.inl v)))) i.1.1.toNat (zfr (zrset h.2 q (.inl (t', len, zrset r i.1.1.toNat (.inr (.inr (.inl v)))))) q (go nx (al, st, (h.1, zrset h.2 q (.inl (t', len, zrset r i.1.1.toNat (.inr (.inr (.inl v)))))), n))) else false
      | _ => false)
    | _ => false
  | _ => false
noncomputable def zo_len (nx : Nat) : zSem := fun _ _ go c => match c with
  | (al, .inr (.inr (.inl q)) :: st, h, n) => match zrget h.2 q with
    | some (.inl (_, len, _)) => if Nat.blt len 2147483648 then go nx (al, .inl ((Int.ofNat len, Int.ofNat len), none) :: st, h, n) else false
    | _ => false
  | _ => false
noncomputable def zo_new (nx ci N bc bs : Nat) (fs : List zAV) : zSem := fun _ _ go c => match c with
  | (al, st, h, cs, sl) => match zrget h.2 h.1 with
    | some _ => if Nat.blt cs bc && Nat.ble (sl + N) bs then zfr (zrset h.2 h.1 (.inr (ci, fs))) h.1 (go nx (al, .inr (.inr (.inl h.1)) :: st, (h.1 + 1, zrset h.2 h.1 (.inr (ci, fs))), cs + 1, sl + N)) else false
    | none => false
noncomputable def zo_newa (nx t bc bs : Nat) (d : zAV) : zSem := fun _ _ go c => match c with
  | (al, .inl i :: st, h, cs, sl) => match zrget h.2 h.1 with
    | some _ => if zle i.1.2 i.1.1 && (zle 0 i.1.1 && (Nat.ble i.1.1.toNat 1000000 && (Nat.blt cs bc && Nat.ble (sl + i.1.1.toNat) bs))) then zfr (zrset h.2 h.1 (.inl (t, i.1.1.toNat, zrmk i.1.1.toNat d))) h.1 (go nx (al, .inr (.inr (.inl h.1)) :: st, (h.1 + 1, zrset h.2 h.1 (.inl (t, i.1.1.toNat, zrmk i.1.1.toNat d))), cs + 1, sl + i.1.1.toNat)) else false
    | none => false
  | _ => false
/-- n values off the stack, the deepest first -/
def zpop : Nat → List zAV → List zAV → Option (List zAV × List zAV)
  | 0, acc, st => some (acc, st)
  | n + 1, acc, a :: st => zpop n (a :: acc) st
  | _ + 1, _, [] => none
theorem zpop_ok : ∀ {n : Nat} {acc st as rest : List zAV}, zpop n acc st = some (as, rest) → ∃ xs, as = xs ++ acc ∧ st = xs.reverse ++ rest ∧ xs.length = n
  | 0, acc, st, as, rest, h => by cases h; exact ⟨[], rfl, rfl, rfl⟩
  | n + 1, acc, a :: st, as, rest, h => by
    obtain ⟨xs, h1, h2, h3⟩ := zpop_ok (n := n) h
    exact ⟨xs ++ [a], by rw [h1]; simp, by rw [h2]; simp, by simp [h3]⟩
  | _ + 1, _, [], _, _, h => by cases h
def zcats : List zAV → Nat
  | [] => 0
  | a :: t => zcat a + zcats t
/-- a call of method mi with n values; its cells mc and slots ms are counted as its own table has them -/
def zo_call (nx mi n mc ms bc bs : Nat) (recv : List zAV → zH → Bool) : zSem := fun call _ go c => match c with
  | (al, st, h, cs, sl) => match zpop n [] st with
    | some (as, rest) => if Nat.ble (zcats rest) 8 && (Nat.ble (cs + mc) bc && (Nat.ble (sl + ms) bs && recv as h)) then call mi as h (fun r h' => match r with
      | none => go nx (al, rest, h', cs + mc, sl + ms)
      | some a => go nx (al, a :: rest, h', cs + mc, sl + ms)) else false
    | none => false
/-- the receiver is an object of the kind ci -/
noncomputable def zrecv (ci : Nat) (as : List zAV) (h : zH) : Bool := match as with
  | .inr (.inr (.inl q)) :: _ => (match zrget h.2 q with
    | some (.inr (ci', _)) => Nat.beq ci' ci
    | _ => false)
  | _ => false
/-- any place -/
def zrecvI (as : List zAV) (_ : zH) : Bool := match as with
  | .inr (.inr (.inl _)) :: _ => true
  | _ => false
def zo_ret0 (bc bs : Nat) : zSem := fun _ rt _ c => match c with
  | (_, [], h, cs, sl) => if Nat.ble cs bc && Nat.ble sl bs then rt none h else false
  | _ => false
def zo_ret1 (bc bs : Nat) (t : Nat) : zSem := fun _ rt _ c => match c with
  | (_, [a], h, cs, sl) => if zfit t a && (Nat.ble cs bc && Nat.ble sl bs) then rt (some a) h else false
  | _ => false
section ZHEAP
variable {p : Program} {l : Launch} {e : Env} {R : Room} {s : State} {m : MethodId} {args : Array Value} {below : List Frame} {meth : Method} {c0 : Code} {Q : State → Prop} {D : va_G} {cl : List vw_C} {tys : List (ClassId × FieldType)} {o : zO} {z : Nat} {X : State → Heap → Prop} {Ts : List Cond} {prog : List zM} {ws0 : va_W} {nL : Nat} {own : String} {cc : ByteArray} {ret : Option FieldType} {nm : String}
theorem zSat_h {al : zL} {st st' : List zAV} {h h' : zH} {k k' : Nat × Nat} {ls : Array Slot} {vst vst' : List Value} {H H' H0 : Heap} {locs locs' : List Loc} {ws ws' : va_W} (S : zSat D cl tys o z ws0 nL H0 (al, st, h, k) ls vst H locs ws) (hst : zr2 (zg o (zad ws)) st' vst') (hsub : zsub (zad ws) (zad ws')) (hw : zwr cl tys o h' ws') (hP : va_P D cl ws' H') (hD : va_D (zA z) ws') (hS : va_S (zA z) H0 H' locs') : zSat D cl tys o z ws0 nL H0 (al, st', h', k') ls vst' H' locs' ws' := by
  obtain ⟨⟨lv, h1, h2⟩, -, -, -, -, -, h3⟩ := S
  exact ⟨⟨lv, h1, zr2_imp (fun a b q => ⟨q.1, zg_mono hsub q.2⟩) h2⟩, zr2_imp (fun a b q => zg_mono hsub q) hst, hw, hP, hD, hS, zsub_trans h3 hsub⟩
theorem zSat_hp {al : zL} {st st' : List zAV} {h h' : zH} {k k' : Nat × Nat} {ls : Array Slot} {vst vst' : List Value} {H H' H0 : Heap} {locs locs' : List Loc} {ws ws' : va_W} {a : zAV} {v : Value} (S : zSat D cl tys o z ws0 nL H0 (al, st, h, k) ls vst H locs ws) (hst : zr2 (zg o (zad ws)) st' vst') (hv : zg o (zad ws') a v) (hsub : zsub (zad ws) (zad ws')) (hw : zwr cl tys o h' ws') (hP : va_P D cl ws' H') (hD : va_D (zA z) ws') (hS : va_S (zA z) H0 H' locs') : zSat D cl tys o z ws0 nL H0 (al, a :: st', h', k') ls (v :: vst') H' locs' ws' := by
  have S' := zSat_h (k' := k') S hst hsub hw hP hD hS
  exact zSat_st S' ⟨hv, S'.2.1⟩
theorem zk_get (C : zCx p R s m args meth c0 D cl tys z X Ts own cc nL nm) {pc ci k : Nat} (row : ∀ (H : Heap) (locs : List Loc) (cells slots : Nat) (ls : Array Slot) (rest : List Value) (ws : va_W) (q0 a : Nat) (fs : List Value) (v : Value), va_P D cl ws H → ws[q0]? = some (a, .inr (ci, fs)) → fs[k]? = some v → W p l e R s m args below meth c0 H locs cells slots Q (F0 m (pc + 3) ls (v :: rest)) → W p l e R s m args below meth c0 H locs cells slots Q (F0 m pc ls (.ref a :: rest))) : zOp p l e R s m args below meth c0 Q D cl tys o z X Ts prog ws0 nL cc ret (pc) (zo_get (pc + 3) ci k) := by
  intro call rt go c _ _ hgo hs ls vst H locs ws S
  unfold zo_get at hs
  split at hs
  · split at hs
    · rename_i hc
      split at hs
      · rename_i he
        have he := Nat.eq_of_beq_eq_true he
        subst he
        split at hs
        · rename_i hf
          obtain ⟨v, t, rfl, ⟨a, ha, rfl⟩, h2⟩ := zr2_cons S.2.1
          obtain ⟨e0, hw, vs, rfl, hvs⟩ := zwr_at S.2.2.1 ha hc
          rw [zget_eq] at hf
          obtain ⟨w, hw1, hw2⟩ := zr2_get k hvs hf
          exact row _ _ _ _ _ _ ws _ _ _ w S.2.2.2.1 hw hw1 (hgo _ _ hs ls _ H locs ws (zSat_st S ⟨hw2, h2⟩))
        · cases hs
      · cases hs
    · cases hs
  · cases hs
theorem zfit_ok {t : Nat} {a : zAV} {v : Value} {ad : Nat → Option Nat} {ty : FieldType} (ht : zftag ty = t) (h : zfit t a = true) (hv : zg o ad a v) : narrow ty v = v ∧ fits ty v = true := by
  subst ht
  rcases a with q | q | r
  · obtain ⟨x, rfl, ⟨h1, h2⟩, -⟩ := hv
    simp only [zfit, Bool.or_eq_true, Bool.and_eq_true, zle_iff] at h
    cases ty <;> simp [zftag, Nat.beq] at h
    · exact ⟨rfl, rfl⟩
    · have hx : x = 0 ∨ x = 1 := by
        rcases (show x.toInt = 0 ∨ x.toInt = 1 by omega) with e | e
        · left; exact Int32.toInt_inj.mp e
        · right; exact Int32.toInt_inj.mp e
      rcases hx with rfl | rfl
      · exact ⟨by decide, by decide⟩
      · exact ⟨by decide, by decide⟩
  · obtain ⟨x, rfl, -⟩ := hv
    cases ty <;> simp [zfit, zftag, Nat.beq] at h
    exact ⟨rfl, rfl⟩
  · rcases zref hv with rfl | ⟨q, rfl⟩ <;> cases ty <;> simp [zfit, zftag, Nat.beq] at h <;> exact ⟨rfl, rfl⟩
theorem zk_put (C : zCx p R s m args meth c0 D cl tys z X Ts own cc nL nm) {pc ci k t : Nat} {ty : FieldType} (ht : zftag ty = t) (row : ∀ (H : Heap) (locs : List Loc) (cells slots : Nat) (ls : Array Slot) (rest : List Value) (ws : va_W) (q0 a : Nat) (fs : List Value) (v : Value), va_P D cl ws H → va_D (zA z) ws → va_S (zA z) s.heap H locs → ws[q0]? = some (a, .inr (ci, fs)) → k < fs.length → narrow ty v = v → fits ty v = true → (∀ (H1 : Heap) (locs1 : List Loc), va_P D cl (ws.set q0 (a, .inr (ci, fs.set k v))) H1 → va_D (zA z) (ws.set q0 (a, .inr (ci, fs.set k v))) → va_S (zA z) s.heap H1 locs1 → W p l e R s m args below meth c0 H1 locs1 cells slots Q (F0 m (pc + 3) ls rest)) → W p l e R s m args below meth c0 H locs cells slots Q (F0 m pc ls (v :: .ref a :: rest))) : zOp p l e R s m args below meth c0 Q D cl tys o z X Ts prog ws0 nL cc ret (pc) (zo_put (pc + 3) ci k t) := by
  intro call rt go c _ _ hgo hs ls vst H locs ws S
  unfold zo_put at hs
  split at hs
  · split at hs
    · rename_i hc
      split at hs
      · rename_i he
        simp only [Bool.and_eq_true] at he
        obtain ⟨he, hfit, hk⟩ := he
        replace hs := zfr_ok hs
        have he := Nat.eq_of_beq_eq_true he
        subst he
        obtain ⟨w, t1, rfl, hw1, h2a⟩ := zr2_cons S.2.1
        obtain ⟨v, t, rfl, ⟨a, ha, rfl⟩, h2⟩ := zr2_cons h2a
        obtain ⟨e0, hw, vs, rfl, hvs⟩ := zwr_at S.2.2.1 ha hc
        obtain ⟨n1, n2⟩ := zfit_ok ht hfit hw1
        have hk : k < vs.length := by rw [← zr2_len hvs]; exact Nat.lt_of_lt_of_le (Nat.lt_succ_self k) (Nat.le_of_ble_eq_true hk)
        refine row _ _ _ _ _ _ ws _ _ _ w S.2.2.2.1 S.2.2.2.2.1 S.2.2.2.2.2.1 hw hk n1 n2 (fun H1 locs1 hP hD hS => ?_)
        refine hgo _ _ hs ls _ H1 locs1 _ (zSat_h S h2 (by rw [zad_set hw]; exact fun _ _ q => q) (zwr_set S.2.2.1 hw hc ⟨_, rfl, ?_⟩) hP hD hS)
        rw [zset_eq]
        exact zr2_set k hvs hw1
      · cases hs
    · cases hs
  · cases hs
theorem zix {i : zI} {x : Int32} {n : Nat} (hx : zmi i x) (h1 : zle i.2 i.1 = true) (h2 : zle 0 i.1 = true) (h3 : zle (i.1 + 1) (Int.ofNat n) = true) : vp_in x n ∧ x.toNatClampNeg = i.1.toNat ∧ i.1.toNat < n := by
  rw [zle_iff] at h1 h2 h3
  obtain ⟨g1, g2⟩ := hx
  have h3 : i.1 + 1 ≤ (n : Int) := h3
  have e : x.toNatClampNeg = x.toInt.toNat := rfl
  refine ⟨vp_in_iff.mpr ⟨by omega, by omega⟩, by rw [e]; omega, by omega⟩
theorem zk_iald (C : zCx p R s m args meth c0 D cl tys z X Ts own cc nL nm) {pc : Nat} (hd : decode cc pc = .ok (.iaload, 1)) : zOp p l e R s m args below meth c0 Q D cl tys o z X Ts prog ws0 nL cc ret (pc) (zo_ald (pc + 1) 0) := by
  intro call rt go c _ _ hgo hs ls vst H locs ws S
  unfold zo_ald at hs
  split at hs
  · split at hs
    · rename_i hc
      split at hs
      · rename_i he
        simp only [Bool.and_eq_true] at he
        obtain ⟨he, x1, x2, x3⟩ := he
        have he := Nat.eq_of_beq_eq_true he
        subst he
        split at hs
        · rename_i hr
          obtain ⟨w, t1, rfl, hw1, h2a⟩ := zr2_cons S.2.1
          obtain ⟨v, t, rfl, ⟨a, ha, rfl⟩, h2⟩ := zr2_cons h2a
          obtain ⟨x, rfl, hx⟩ := zint hw1
          obtain ⟨e0, hw, cA, hA, f, rfl, hf⟩ := zwr_at S.2.2.1 ha hc
          obtain ⟨b1, b2, b3⟩ := zix hx.1 x1 x2 x3
          obtain ⟨a1, g1, g2⟩ := hf _ b3
          rw [hr] at g1
          cases g1
          obtain ⟨t0, ht0⟩ := List.getElem?_of_mem hA
          refine va_iald C.1 C.2.1 C.2.2.2.2.2.1 S.2.2.2.1 _ t0 hw ht0 b1 hd ?_
          rw [b2]
          exact hgo _ _ hs ls _ H locs ws (zSat_st S ⟨g2, h2⟩)
        · cases hs
      · cases hs
    · cases hs
  · cases hs
theorem zk_lald (C : zCx p R s m args meth c0 D cl tys z X Ts own cc nL nm) {pc : Nat} (hd : decode cc pc = .ok (.laload, 1)) : zOp p l e R s m args below meth c0 Q D cl tys o z X Ts prog ws0 nL cc ret (pc) (zo_ald (pc + 1) 1) := by
  intro call rt go c _ _ hgo hs ls vst H locs ws S
  unfold zo_ald at hs
  split at hs
  · split at hs
    · rename_i hc
      split at hs
      · rename_i he
        simp only [Bool.and_eq_true] at he
        obtain ⟨he, x1, x2, x3⟩ := he
        have he := Nat.eq_of_beq_eq_true he
        subst he
        split at hs
        · rename_i hr
          obtain ⟨w, t1, rfl, hw1, h2a⟩ := zr2_cons S.2.1
          obtain ⟨v, t, rfl, ⟨a, ha, rfl⟩, h2⟩ := zr2_cons h2a
          obtain ⟨x, rfl, hx⟩ := zint hw1
          obtain ⟨e0, hw, cA, hA, f, rfl, hf⟩ := zwr_at S.2.2.1 ha hc
          obtain ⟨b1, b2, b3⟩ := zix hx.1 x1 x2 x3
          obtain ⟨a1, g1, g2⟩ := hf _ b3
          rw [hr] at g1
          cases g1
          obtain ⟨t0, ht0⟩ := List.getElem?_of_mem hA
          refine va_lald C.1 C.2.1 C.2.2.2.2.2.1 S.2.2.2.1 _ t0 hw ht0 b1 hd ?_
          rw [b2]
          exact hgo _ _ hs ls _ H locs ws (zSat_st S ⟨g2, h2⟩)
        · cases hs
      · cases hs
    · cases hs
  · cases hs
theorem zk_zald (C : zCx p R s m args meth c0 D cl tys z X Ts own cc nL nm) {pc : Nat} (hd : decode cc pc = .ok (.baload, 1)) : zOp p l e R s m args below meth c0 Q D cl tys o z X Ts prog ws0 nL cc ret (pc) (zo_ald (pc + 1) 2) := by
  intro call rt go c _ _ hgo hs ls vst H locs ws S
  unfold zo_ald at hs
  split at hs
  · split at hs
    · rename_i hc
      split at hs
      · rename_i he
        simp only [Bool.and_eq_true] at he
        obtain ⟨he, x1, x2, x3⟩ := he
        have he := Nat.eq_of_beq_eq_true he
        subst he
        split at hs
        · rename_i hr
          obtain ⟨w, t1, rfl, hw1, h2a⟩ := zr2_cons S.2.1
          obtain ⟨v, t, rfl, ⟨a, ha, rfl⟩, h2⟩ := zr2_cons h2a
          obtain ⟨x, rfl, hx⟩ := zint hw1
          obtain ⟨e0, hw, cA, hA, f, rfl, hf⟩ := zwr_at S.2.2.1 ha hc
          obtain ⟨b1, b2, b3⟩ := zix hx.1 x1 x2 x3
          obtain ⟨a1, g1, g2⟩ := hf _ b3
          rw [hr] at g1
          cases g1
          obtain ⟨t0, ht0⟩ := List.getElem?_of_mem hA
          refine va_zald C.1 C.2.1 C.2.2.2.2.2.1 S.2.2.2.1 _ t0 hw ht0 b1 hd ?_
          rw [b2]
          exact hgo _ _ hs ls _ H locs ws (zSat_st S ⟨g2, h2⟩)
        · cases hs
      · cases hs
    · cases hs
  · cases hs
theorem zup {n : Nat} {r : zR zAV} {i : Nat} {a : zAV} {P : zAV → Nat → Prop} {Q1 : zAV → Nat → Prop} (hi : i < n) (h : ∀ j, j < n → ∃ b, zrget r j = some b ∧ P b j) (ha : Q1 a i) (hP : ∀ b j, j ≠ i → P b j → Q1 b j) : ∀ j, j < n → ∃ b, zrget (zrset r i a) j = some b ∧ Q1 b j := by
  intro j hj
  obtain ⟨b0, g0, -⟩ := h i hi
  rw [zrget_set g0]
  by_cases e : j = i
  · subst e
    rw [if_pos rfl]
    exact ⟨a, rfl, ha⟩
  · rw [if_neg e]
    obtain ⟨b, g1, g2⟩ := h j hj
    exact ⟨b, g1, hP b j e g2⟩
theorem zk_iast (C : zCx p R s m args meth c0 D cl tys z X Ts own cc nL nm) {pc : Nat} (hd : decode cc pc = .ok (.iastore, 1)) : zOp p l e R s m args below meth c0 Q D cl tys o z X Ts prog ws0 nL cc ret (pc) (zo_ast (pc + 1) 0) := by
  intro call rt go c _ _ hgo hs ls vst H locs ws S
  unfold zo_ast at hs
  split at hs
  · split at hs
    · rename_i hc
      split at hs
      · rename_i he
        simp only [Bool.and_eq_true] at he
        obtain ⟨he, hfit, x1, x2, x3⟩ := he
        replace hs := zfr_ok (zfr_ok hs)
        have he := Nat.eq_of_beq_eq_true he
        subst he
        obtain ⟨u, t0, rfl, hu1, h2a⟩ := zr2_cons S.2.1
        obtain ⟨w, t1, rfl, hw1, h2b⟩ := zr2_cons h2a
        obtain ⟨v, t, rfl, ⟨a, ha, rfl⟩, h2⟩ := zr2_cons h2b
        obtain ⟨x, rfl, hx⟩ := zint hw1
        obtain ⟨y, rfl⟩ : ∃ y : Int32, u = .int y := by
          have h := zfit_ok (ty := .int) rfl hfit hu1
          cases u <;> first | exact ⟨_, rfl⟩ | (exact absurd h.2 (by decide)) | (simp [fits] at h)
        obtain ⟨e0, hw, cA, hA, f, rfl, hf⟩ := zwr_at S.2.2.1 ha hc
        obtain ⟨b1, b2, b3⟩ := zix hx.1 x1 x2 x3
        obtain ⟨t0, ht0⟩ := List.getElem?_of_mem hA
        refine va_iast C.1 C.2.1 C.2.2.2.2.2.1 S.2.2.2.1 S.2.2.2.2.1 S.2.2.2.2.2.1 _ t0 hw ht0 b1 hd (fun H1 locs1 hP hD hS => ?_)
        rw [b2] at hP hD
        refine hgo _ _ hs ls _ H1 locs1 _ (zSat_h S h2 (by rw [zad_set hw]; exact fun _ _ q => q) (zwr_set S.2.2.1 hw hc ⟨cA, hA, _, rfl, ?_⟩) hP hD hS)
        exact zup b3 hf (by rw [upd, if_pos rfl]; exact hu1) (fun b j hj q => by rw [upd, if_neg hj]; exact q)
      · cases hs
    · cases hs
  · cases hs
theorem zk_last (C : zCx p R s m args meth c0 D cl tys z X Ts own cc nL nm) {pc : Nat} (hd : decode cc pc = .ok (.lastore, 1)) : zOp p l e R s m args below meth c0 Q D cl tys o z X Ts prog ws0 nL cc ret (pc) (zo_ast (pc + 1) 1) := by
  intro call rt go c _ _ hgo hs ls vst H locs ws S
  unfold zo_ast at hs
  split at hs
  · split at hs
    · rename_i hc
      split at hs
      · rename_i he
        simp only [Bool.and_eq_true] at he
        obtain ⟨he, hfit, x1, x2, x3⟩ := he
        replace hs := zfr_ok (zfr_ok hs)
        have he := Nat.eq_of_beq_eq_true he
        subst he
        obtain ⟨u, t0, rfl, hu1, h2a⟩ := zr2_cons S.2.1
        obtain ⟨w, t1, rfl, hw1, h2b⟩ := zr2_cons h2a
        obtain ⟨v, t, rfl, ⟨a, ha, rfl⟩, h2⟩ := zr2_cons h2b
        obtain ⟨x, rfl, hx⟩ := zint hw1
        obtain ⟨y, rfl⟩ : ∃ y : Int64, u = .long y := by
          have h := zfit_ok (ty := .long) rfl hfit hu1
          cases u <;> first | exact ⟨_, rfl⟩ | (exact absurd h.2 (by decide)) | (simp [fits] at h)
        obtain ⟨e0, hw, cA, hA, f, rfl, hf⟩ := zwr_at S.2.2.1 ha hc
        obtain ⟨b1, b2, b3⟩ := zix hx.1 x1 x2 x3
        obtain ⟨t0, ht0⟩ := List.getElem?_of_mem hA
        refine va_last C.1 C.2.1 C.2.2.2.2.2.1 S.2.2.2.1 S.2.2.2.2.1 S.2.2.2.2.2.1 _ t0 hw ht0 b1 hd (fun H1 locs1 hP hD hS => ?_)
        rw [b2] at hP hD
        refine hgo _ _ hs ls _ H1 locs1 _ (zSat_h S h2 (by rw [zad_set hw]; exact fun _ _ q => q) (zwr_set S.2.2.1 hw hc ⟨cA, hA, _, rfl, ?_⟩) hP hD hS)
        exact zup b3 hf (by rw [vp_updL, if_pos rfl]; exact hu1) (fun b j hj q => by rw [vp_updL, if_neg hj]; exact q)
      · cases hs
    · cases hs
  · cases hs
theorem zk_zast (C : zCx p R s m args meth c0 D cl tys z X Ts own cc nL nm) {pc : Nat} (hd : decode cc pc = .ok (.bastore, 1)) : zOp p l e R s m args below meth c0 Q D cl tys o z X Ts prog ws0 nL cc ret (pc) (zo_ast (pc + 1) 2) := by
  intro call rt go c _ _ hgo hs ls vst H locs ws S
  unfold zo_ast at hs
  split at hs
  · split at hs
    · rename_i hc
      split at hs
      · rename_i he
        simp only [Bool.and_eq_true] at he
        obtain ⟨he, hfit, x1, x2, x3⟩ := he
        replace hs := zfr_ok (zfr_ok hs)
        have he := Nat.eq_of_beq_eq_true he
        subst he
        obtain ⟨u, t0, rfl, hu1, h2a⟩ := zr2_cons S.2.1
        obtain ⟨w, t1, rfl, hw1, h2b⟩ := zr2_cons h2a
        obtain ⟨v, t, rfl, ⟨a, ha, rfl⟩, h2⟩ := zr2_cons h2b
        obtain ⟨x, rfl, hx⟩ := zint hw1
        have hnf := zfit_ok (ty := .boolean) rfl hfit hu1
        obtain ⟨y, rfl⟩ : ∃ y : Int32, u = .int y := by
          cases u <;> first | exact ⟨_, rfl⟩ | (exact absurd hnf.2 (by decide)) | (simp [fits] at hnf)
        have hny : vp_nar .boolean y = y := by unfold vp_nar; rw [hnf.1]
        obtain ⟨e0, hw, cA, hA, f, rfl, hf⟩ := zwr_at S.2.2.1 ha hc
        obtain ⟨b1, b2, b3⟩ := zix hx.1 x1 x2 x3
        obtain ⟨t0, ht0⟩ := List.getElem?_of_mem hA
        refine va_zast C.1 C.2.1 C.2.2.2.2.2.1 S.2.2.2.1 S.2.2.2.2.1 S.2.2.2.2.2.1 _ t0 hw ht0 b1 hd (fun H1 locs1 hP hD hS => ?_)
        rw [b2, hny] at hP hD
        refine hgo _ _ hs ls _ H1 locs1 _ (zSat_h S h2 (by rw [zad_set hw]; exact fun _ _ q => q) (zwr_set S.2.2.1 hw hc ⟨cA, hA, _, rfl, ?_⟩) hP hD hS)
        exact zup b3 hf (by rw [upd, if_pos rfl]; exact hu1) (fun b j hj q => by rw [upd, if_neg hj]; exact q)
      · cases hs
    · cases hs
  · cases hs
theorem zk_aald (C : zCx p R s m args meth c0 D cl tys z X Ts own cc nL nm) {pc : Nat} (hd : decode cc pc = .ok (.aaload, 1)) : zOp p l e R s m args below meth c0 Q D cl tys o z X Ts prog ws0 nL cc ret (pc) (zo_aald (pc + 1)) := by
  intro call rt go c _ _ hgo hs ls vst H locs ws S
  unfold zo_aald at hs
  split at hs
  · split at hs
    · rename_i t' len r hc
      split at hs
      · rename_i he
        simp only [Bool.and_eq_true] at he
        obtain ⟨he, x1, x2, x3⟩ := he
        have he := Nat.le_of_ble_eq_true he
        obtain ⟨t3, rfl⟩ : ∃ t3, t' = t3 + 4 := ⟨t' - 4, by omega⟩
        split at hs
        · rename_i hr
          obtain ⟨w, t1, rfl, hw1, h2a⟩ := zr2_cons S.2.1
          obtain ⟨v, t, rfl, ⟨a, ha, rfl⟩, h2⟩ := zr2_cons h2a
          obtain ⟨x, rfl, hx⟩ := zint hw1
          obtain ⟨e0, hw, cA, hA, f, rfl, hf⟩ := zwr_at S.2.2.1 ha hc
          obtain ⟨b1, b2, b3⟩ := zix hx.1 x1 x2 x3
          obtain ⟨a1, g1, g2⟩ := hf _ b3
          rw [hr] at g1
          cases g1
          obtain ⟨t0, ht0⟩ := List.getElem?_of_mem hA
          refine va_aldq C.1 C.2.1 C.2.2.2.2.2.1 S.2.2.2.1 _ t0 hw ht0 b1 hd ?_
          rw [b2]
          exact hgo _ _ hs ls _ H locs ws (zSat_st S ⟨g2, h2⟩)
        · cases hs
      · cases hs
    · cases hs
  · cases hs
theorem zk_aast (C : zCx p R s m args meth c0 D cl tys z X Ts own cc nL nm) {pc : Nat} (hd : decode cc pc = .ok (.aastore, 1)) (hcl : ∀ k, k < cl.length → True) : zOp p l e R s m args below meth c0 Q D cl tys o z X Ts prog ws0 nL cc ret (pc) (zo_aast (pc + 1)) := by
  intro call rt go c _ _ hgo hs ls vst H locs ws S
  unfold zo_aast at hs
  split at hs
  · split at hs
    · rename_i t' len r hc
      split at hs
      · rename_i ci fsv hv
        split at hs
        · rename_i he
          simp only [Bool.and_eq_true] at he
          obtain ⟨he, x1, x2, x3⟩ := he
          have he := Nat.eq_of_beq_eq_true he
          subst he
          replace hs := zfr_ok (zfr_ok hs)
          obtain ⟨u, t0, rfl, ⟨va, hva, rfl⟩, h2a⟩ := zr2_cons S.2.1
          obtain ⟨w, t1, rfl, hw1, h2b⟩ := zr2_cons h2a
          obtain ⟨v, t, rfl, ⟨a, ha, rfl⟩, h2⟩ := zr2_cons h2b
          obtain ⟨x, rfl, hx⟩ := zint hw1
          obtain ⟨e0, hw, cA, hA, f, rfl, hf⟩ := zwr_at S.2.2.1 ha hc
          obtain ⟨e1, hw', vs, rfl, hvs⟩ := zwr_at S.2.2.1 hva hv
          obtain ⟨b1, b2, b3⟩ := zix hx.1 x1 x2 x3
          obtain ⟨t0, ht0⟩ := List.getElem?_of_mem hA
          obtain ⟨rc, hrc, -⟩ := S.2.2.2.1 _ _ hw'
          have hrc : cl[ci]? = some rc := hrc
          have hty : zty cl (ci + 4) = .object rc.1 := by
            show FieldType.object (match cl[ci]? with | some q => q.1 | none => "") = _
            rw [hrc]
          have ht0 : tys[t0]? = some (cA, .object rc.1) := by rw [ht0]; show some (cA, zty cl (ci + 4)) = _; rw [hty]
          refine va_astq C.1 C.2.1 C.2.2.2.2.2.1 S.2.2.2.1 S.2.2.2.2.1 S.2.2.2.2.2.1 _ t0 _ ci hw ht0 hw' hrc b1 hd (fun H1 locs1 hP hD hS => ?_)
          rw [b2] at hP hD
          refine hgo _ _ hs ls _ H1 locs1 _ (zSat_h S h2 (by rw [zad_set hw]; exact fun _ _ q => q) (zwr_set S.2.2.1 hw hc ⟨cA, hA, _, rfl, ?_⟩) hP hD hS)
          exact zup b3 hf (by rw [va_up, if_pos rfl]; exact ⟨va, hva, rfl⟩) (fun b j hj q => by rw [va_up, if_neg hj]; exact q)
        · cases hs
      · cases hs
    · cases hs
  · cases hs
theorem zae_len {t n : Nat} {r : zR zAV} {cA : ClassId} {e : va_E} {ad : Nat → Option Nat} (h : zae o ad t n r cA e) : ∃ x : vp_A, e = .inl (cA, x) ∧ x.1 = n := by
  match t, h with
  | 0, ⟨f, h1, _⟩ => exact ⟨_, h1, rfl⟩
  | 1, ⟨f, h1, _⟩ => exact ⟨_, h1, rfl⟩
  | 2, ⟨f, h1, _⟩ => exact ⟨_, h1, rfl⟩
  | 3, ⟨f, h1, _⟩ => exact ⟨_, h1, rfl⟩
  | _ + 4, ⟨f, h1, _⟩ => exact ⟨_, h1, rfl⟩
theorem zk_len (C : zCx p R s m args meth c0 D cl tys z X Ts own cc nL nm) {pc : Nat} (hd : decode cc pc = .ok (.arraylength, 1)) : zOp p l e R s m args below meth c0 Q D cl tys o z X Ts prog ws0 nL cc ret (pc) (zo_len (pc + 1)) := by
  intro call rt go c _ _ hgo hs ls vst H locs ws S
  unfold zo_len at hs
  split at hs
  · split at hs
    · rename_i t' len r hc
      split at hs
      · rename_i hl
        have hl : len < 2147483648 := Nat.le_of_ble_eq_true hl
        obtain ⟨v, t, rfl, ⟨a, ha, rfl⟩, h2⟩ := zr2_cons S.2.1
        obtain ⟨e0, hw, cA, hA, hz⟩ := zwr_at S.2.2.1 ha hc
        obtain ⟨x, rfl, hx⟩ := zae_len hz
        obtain ⟨t0, ht0⟩ := List.getElem?_of_mem hA
        refine va_alen C.1 C.2.1 C.2.2.2.2.2.1 S.2.2.2.1 _ t0 hw ht0 rfl hd ?_
        refine hgo _ _ hs ls _ H locs ws (zSat_st S ⟨⟨_, rfl, ?_, trivial⟩, h2⟩)
        have e : (Int32.ofNat x.1).toInt = (x.1 : Int) := nI_toInt (by rw [hx]; omega)
        unfold zmem
        rw [e, hx]
        exact ⟨Int.le_refl _, Int.le_refl _⟩
      · cases hs
    · cases hs
  · cases hs
theorem zk_new (C : zCx p R s m args meth c0 D cl tys z X Ts own cc nL nm) {pc ci N index bc bs : Nat} {Cn : String} {T : u_T} {fs : List zAV} {vs : List Value} (hbc : R.cells = bc) (hbs : R.slots = bs) (hd : decode cc pc = .ok (.new index, 3)) (hcl : cl[ci]? = some (Cn, T, N)) (hin : ∀ w ∈ u_ws Cn T N, w ∈ Ts) (ty : Nat → FieldType) (hty : ∀ k, k < N → parseFieldDescriptor (T k).2.2.1 = some (ty k)) (hl : Cond.classLink own index Cn ∈ Ts) (hi : Cond.instantiable Cn N ∈ Ts) (hz : Cond.initialized Cn ∈ Ts) (hfs : ∀ j, j < N → defaultValue (ty j) = vp_V vs j) (hrel : ∀ ad, zr2 (zg o ad) fs vs) : zOp p l e R s m args below meth c0 Q D cl tys o z X Ts prog ws0 nL cc ret (pc) (zo_new (pc + 3) ci N bc bs fs) := by
  intro call rt go c _ _ hgo hs ls vst H locs ws S
  unfold zo_new at hs
  split at hs
  rename_i al st h cs sl
  split at hs
  · rename_i d hc
    split at hs
    · rename_i hcnt
      replace hs := zfr_ok hs
      rw [Bool.and_eq_true] at hcnt
      have c1 : cs < bc := Nat.le_of_ble_eq_true hcnt.1
      have c2 := Nat.le_of_ble_eq_true hcnt.2
      refine va_new C.1 C.2.1 C.2.2.2.2.1 hin ty hty C.2.2.2.1 (C.2.2.2.2.1 _ hl) (C.2.2.2.2.1 _ hi) (C.2.2.2.2.1 _ hz) C.2.2.2.2.2.1 S.2.2.2.1 S.2.2.2.2.1 S.2.2.2.2.2.1 (fun q hq => Nat.le_trans C.2.2.2.2.2.2.2.2.1 hq) hcl hfs (by rw [hbc]; exact c1) (by rw [hbs]; exact c2) hd (fun q H1 hP hD hS => ?_)
      refine hgo _ _ hs ls _ H1 locs _ (zSat_hp S S.2.1 ⟨q, zad_push S.2.2.1.1, rfl⟩ zsub_push (zwr_push S.2.2.1 hc (c' := .inr (ci, fs)) ⟨vs, rfl, hrel _⟩) hP hD hS)
    · cases hs
  · cases hs
theorem zk_newa (C : zCx p R s m args meth c0 D cl tys z X Ts own cc nL nm) {pc t bc bs : Nat} {atype : ArrayType} {ty : FieldType} {d : zAV} (hbc : R.cells = bc) (hbs : R.slots = bs) (hd : decode cc pc = .ok (.newarray atype, 2)) (hw : Cond.arrayClass (newarray.typeOf atype) ∈ Ts) (hty : newarray.typeOf atype = ty) (ht : zty cl t = ty) (hbytes : componentBytes ty ≤ 8) (hm : ∃ cA, (cA, ty) ∈ tys) (hRA : ∀ cA, va_RA s cA ty → s.vm.findClass ("[" ++ ty.toString) = some cA) (mk : ∀ (n : Nat), ∃ a0 : vp_A, (∀ cA : ClassId, vp_cell cA a0 = arrV cA n (fun _ => defaultValue ty)) ∧ ∀ ad cA, zae o ad t n (zrmk n d) cA (.inl (cA, a0))) : zOp p l e R s m args below meth c0 Q D cl tys o z X Ts prog ws0 nL cc ret (pc) (zo_newa (pc + 2) t bc bs d) := by
  intro call rt go c _ _ hgo hs ls vst H locs ws S
  unfold zo_newa at hs
  split at hs
  · rename_i al i st h cs sl
    split at hs
    · rename_i d0 hc
      split at hs
      · rename_i hcnt
        simp only [Bool.and_eq_true, zle_iff] at hcnt
        obtain ⟨x1, x2, x3, x4, x5⟩ := hcnt
        replace hs := zfr_ok hs
        have x3 := Nat.le_of_ble_eq_true x3
        have x4 : cs < bc := Nat.le_of_ble_eq_true x4
        have x5 := Nat.le_of_ble_eq_true x5
        obtain ⟨v, t1, rfl, h1, h2⟩ := zr2_cons S.2.1
        obtain ⟨x, rfl, ⟨hx1, hx2⟩, -⟩ := h1
        have ex : x.toInt = i.1.1 := by omega
        obtain ⟨a0, m1, m2⟩ := mk i.1.1.toNat
        have hn : ¬ x < 0 := by rw [Int32.lt_iff_toInt_lt, Int32.toInt_zero]; omega
        have hN : x.toNatClampNeg = i.1.1.toNat := by show x.toInt.toNat = _; rw [ex]
        refine va_newa C.1 C.2.1 (C.2.2.2.2.1 _ hw) hty C.2.2.2.2.2.1 S.2.2.2.1 S.2.2.2.2.1 S.2.2.2.2.2.1 (fun q hq => Nat.le_trans C.2.2.2.2.2.2.2.2.1 hq) m1 hn hN (Nat.le_trans (Nat.mul_le_mul x3 hbytes) (by decide)) (by rw [hbc]; exact x4) (by rw [hbs]; exact x5) hd (fun q cA H1 hK hP hD hS => ?_)
        have hmem : (cA, zty cl t) ∈ tys := by
          obtain ⟨cB, hB⟩ := hm
          obtain ⟨k0, hk0⟩ := List.getElem?_of_mem hB
          have e1 := hRA cB (C.2.2.2.2.2.1.2 k0 _ hk0).2
          have e2 := hRA cA (hK.2 tys.length (cA, ty) (by rw [List.getElem?_append_right (Nat.le_refl _), Nat.sub_self]; rfl)).2
          rw [e1] at e2
          cases e2
          rw [ht]
          exact hB
        refine hgo _ _ hs ls _ H1 locs _ (zSat_hp S h2 ⟨q, zad_push S.2.2.1.1, rfl⟩ zsub_push (zwr_push S.2.2.1 hc (c' := .inl (t, i.1.1.toNat, zrmk i.1.1.toNat d)) ⟨cA, hmem, m2 _ cA⟩) hP hD hS)
      · cases hs
    · cases hs
  · cases hs
theorem zk_newq (C : zCx p R s m args meth c0 D cl tys z X Ts own cc nL nm) {pc ci index bc bs : Nat} {Cn : String} (hbc : R.cells = bc) (hbs : R.slots = bs) (hd : decode cc pc = .ok (.anewarray index, 3)) (hl : Cond.classLink own index Cn ∈ Ts) (hX : ∀ U H, X U H → va_AO Cn U) (hcn : zty cl (ci + 4) = .object Cn) (hm : ∃ cA, (cA, FieldType.object Cn) ∈ tys) : zOp p l e R s m args below meth c0 Q D cl tys o z X Ts prog ws0 nL cc ret (pc) (zo_newa (pc + 3) (ci + 4) bc bs (.inr (.inr (.inr (.inl false))))) := by
  intro call rt go c _ _ hgo hs ls vst H locs ws S
  unfold zo_newa at hs
  split at hs
  · rename_i al i st h cs sl
    split at hs
    · rename_i d0 hc
      split at hs
      · rename_i hcnt
        simp only [Bool.and_eq_true, zle_iff] at hcnt
        obtain ⟨x1, x2, x3, x4, x5⟩ := hcnt
        replace hs := zfr_ok hs
        have x3 := Nat.le_of_ble_eq_true x3
        have x4 : cs < bc := Nat.le_of_ble_eq_true x4
        have x5 := Nat.le_of_ble_eq_true x5
        obtain ⟨v, t1, rfl, h1, h2⟩ := zr2_cons S.2.1
        obtain ⟨x, rfl, ⟨hx1, hx2⟩, -⟩ := h1
        have ex : x.toInt = i.1.1 := by omega
        have hn : ¬ x < 0 := by rw [Int32.lt_iff_toInt_lt, Int32.toInt_zero]; omega
        have hN : x.toNatClampNeg = i.1.1.toNat := by show x.toInt.toNat = _; rw [ex]
        refine va_newq C.1 C.2.1 C.2.2.2.1 (C.2.2.2.2.1 _ hl) (hX _ _ C.2.2.2.2.2.2.2.1) C.2.2.2.2.2.1 S.2.2.2.1 S.2.2.2.2.1 S.2.2.2.2.2.1 (fun q hq => Nat.le_trans C.2.2.2.2.2.2.2.2.1 hq) hn hN (by omega) (by rw [hbc]; exact x4) (by rw [hbs]; exact x5) hd (fun q cA H1 hK hP hD hS => ?_)
        have hmem : (cA, zty cl (ci + 4)) ∈ tys := by
          obtain ⟨cB, hB⟩ := hm
          obtain ⟨k0, hk0⟩ := List.getElem?_of_mem hB
          obtain ⟨kA, comp, -, -, -, e1⟩ := (C.2.2.2.2.2.1.2 k0 _ hk0).2
          obtain ⟨kA2, comp2, -, -, -, e2⟩ := (hK.2 tys.length (cA, .object Cn) (by rw [List.getElem?_append_right (Nat.le_refl _), Nat.sub_self]; rfl)).2
          rw [e1] at e2
          cases e2
          rw [hcn]
          exact hB
        refine hgo _ _ hs ls _ H1 locs _ (zSat_hp S h2 ⟨q, zad_push S.2.2.1.1, rfl⟩ zsub_push (zwr_push S.2.2.1 hc (c' := .inl (ci + 4, i.1.1.toNat, zrmk i.1.1.toNat (.inr (.inr (.inr (.inl false)))))) ⟨cA, hmem, fun _ => none, rfl, fun j hj => ⟨_, zrmk_get hj, ?_⟩⟩) hP hD hS)
        simp [zg, va_rf]
      · cases hs
    · cases hs
  · cases hs
theorem zcall_k {pc mc ms : Nat} {H : Heap} {locs : List Loc} {cells slots : Nat} {ls : Array Slot} {st0 rest : List Value} {ws : va_W} {k : zRt} {a : Array Value} (hr : va_Run p l e R s m args below meth c0 H locs cells slots mc ms (F0 m pc ls st0) rest (zQ D cl tys o z ws k a) (zA z)) (hS : va_S (zA z) s.heap H locs)
    (kk : ∀ (r : Option zAV) (v : Option Value) (h : zH) (ws' : va_W) (H1 : Heap) (locs1 : List Loc), zgo o (zad ws') r v → zsub (zad ws) (zad ws') → zwr cl tys o h ws' → va_P D cl ws' H1 → va_D (zA z) ws' → va_S (zA z) s.heap H1 locs1 → k r h = true → W p l e R s m args below meth c0 H1 locs1 (cells + mc) (slots + ms) Q (F0 m (pc + 3) ls (v.toList ++ rest))) : W p l e R s m args below meth c0 H locs cells slots Q (F0 m pc ls st0) := by
  intro T hT Y
  obtain ⟨v, st₀, t, T', L, h0, Y', hL, e1, e2, ⟨⟨r, v', h, ws', hv, q1, q2, q3, q4, q5, q6⟩, hz, hk⟩, st⟩ := hr T hT Y
  cases hv
  rw [h0] at hz hk
  rw [← e1] at q4
  obtain ⟨t2, a1, b1⟩ := kk r v h ws' T'.heap (locs ++ L) q1 q2 q3 q4 q5
    ⟨Nat.le_trans hS.1 (by rw [e1]; exact hz), fun q h1 h2 => by rw [e1, hk q (Nat.lt_of_lt_of_le h1 hS.1) h2]; exact hS.2.1 q h1 h2, fun q hq => by
      rcases List.mem_append.mp hq with h | h
      · exact hS.2.2 q h
      · exact hL q h⟩ q6 T' rfl Y'
  exact ⟨t2, st t2 a1, b1⟩
/-- what lies outside the world stays: the same tables, warmer tables, no change below z -/
def zXok (X : State → Heap → Prop) (z : Nat) : Prop := (∀ (U U' : State) (H : Heap), U'.vm = U.vm → X U H → X U' H) ∧ (∀ (U U' : State) (H : Heap), U.WarmedH U'.vm → X U H → X U' H) ∧ ∀ (U : State) (H H1 : Heap), z ≤ H.size → (∀ a : Nat, a < z → H1[a]? = H[a]?) → X U H → X U H1
theorem zr2_split {ad : Nat → Option Nat} : ∀ {xs rest : List zAV} {vst : List Value}, zr2 (zg o ad) (xs ++ rest) vst → ∃ vx vr, vst = vx ++ vr ∧ zr2 (zg o ad) xs vx ∧ zr2 (zg o ad) rest vr
  | [], rest, vst, h => ⟨[], vst, rfl, trivial, h⟩
  | a :: xs, rest, vst, h => by
    obtain ⟨v, t, rfl, h1, h2⟩ := zr2_cons h
    obtain ⟨vx, vr, rfl, h3, h4⟩ := zr2_split h2
    exact ⟨v :: vx, vr, rfl, ⟨h1, h3⟩, h4⟩
theorem zr2_rev {ad : Nat → Option Nat} : ∀ {xs : List zAV} {vx : List Value}, zr2 (zg o ad) xs vx → zr2 (zg o ad) xs.reverse vx.reverse
  | [], [], _ => trivial
  | a :: xs, v :: vx, h => by
    rw [List.reverse_cons, List.reverse_cons]
    exact zr2_app (zr2_rev h.2) ⟨h.1, trivial⟩
  | [], _ :: _, h => h.elim
  | _ :: _, [], h => h.elim
theorem zcats_ok {ad : Nat → Option Nat} : ∀ {xs : List zAV} {vx : List Value}, zr2 (zg o ad) xs vx → (vx.map fun v => v.category).sum = zcats xs
  | [], [], _ => rfl
  | a :: xs, v :: vx, h => by
    rw [List.map_cons, List.sum_cons, zcats_ok h.2, zg_cat h.1]
    rfl
  | [], _ :: _, h => h.elim
  | _ :: _, [], h => h.elim
theorem zblind {h : zH} {ws : va_W} {vs : List Value} (hX : zXok X z) : FrameBlind (va_Pc vs (zSt D cl tys o z X h ws)) := by
  intro a U g mk q
  obtain ⟨q0, q1, q2, q3, q4, q5, q6⟩ := q
  exact ⟨q0, q1, q2, q3, va_K.moved (u := U) (U := U.calling g mk a) (Vm.Alike.refl U.vm) q4, hX.1 U _ _ rfl q5, q6⟩
/-- a call: 'row' is the kit's row for its kind -/
theorem zk_call (C : zCx p R s m args meth c0 D cl tys z X Ts own cc nL nm) (hX : zXok X z) {pc mi n mc ms bc bs : Nat} {mr : zM} {recv : List zAV → zH → Bool} {Rc : List Value → Heap → Prop} (hbc : R.cells = bc) (hbs : R.slots = bs) (hm : zget prog mi = some mr) (hmc : mr.2.2.2.2.1 = mc) (hms : mr.2.2.2.2.2.1 = ms)
    (hrecv : ∀ (as : List zAV) (h : zH) (ws : va_W) (vs : List Value) (H : Heap) (locs : List Loc), va_S (zA z) s.heap H locs → recv as h = true → zwr cl tys o h ws → va_P D cl ws H → zr2 (zg o (zad ws)) as vs → Rc vs H)
    (row : ∀ (H : Heap) (locs : List Loc) (cells slots : Nat) (ls : Array Slot) (As rest : List Value) (fr lo : Nat) (Pc : Array Value → State → Prop) (Qc : Array Value → State → Outcome → State → Prop), Met l mr.1 (.code mr.1 mr.2.1 mr.2.2.1 mr.2.2.2.1 :: Ts) { frames := fr, cells := mr.2.2.2.2.1, slots := mr.2.2.2.2.2.1, locals := lo } Pc Qc mr.2.2.2.2.1 mr.2.2.2.2.2.1 (zA z) → fr + 1 ≤ R.frames → 8 + (mr.2.2.1 + 11) + lo ≤ R.locals → FrameBlind Pc → (∀ U : State, U.heap = H → s.WarmedH U.vm → Pc As.toArray U) → Rc As H → As.length = n → ls.size = nL → 2 * (F0 m pc ls (As.reverse ++ rest)).monitorRoom + (rest.map fun v => v.category).sum ≤ 8 → cells + mc ≤ R.cells ∧ slots + ms ≤ R.slots →
      va_Run p l e R s m args below meth c0 H locs cells slots mc ms (F0 m pc ls (As.reverse ++ rest)) rest (Qc As.toArray) (zA z)) : zOp p l e R s m args below meth c0 Q D cl tys o z X Ts prog ws0 nL cc ret (pc) (zo_call (pc + 3) mi n mc ms bc bs recv) := by
  intro call rt go c hcall _ hgo hs ls vst H locs ws S
  unfold zo_call at hs
  split at hs
  rename_i al st h cs sl
  split at hs
  · rename_i as rest hp
    split at hs
    · rename_i hcnt
      simp only [Bool.and_eq_true] at hcnt
      obtain ⟨c1, c2, c3, c4⟩ := hcnt
      have c1 := Nat.le_of_ble_eq_true c1
      have c2 := Nat.le_of_ble_eq_true c2
      have c3 := Nat.le_of_ble_eq_true c3
      obtain ⟨xs, e1, e2, e3⟩ := zpop_ok hp
      rw [List.append_nil] at e1
      subst e1
      subst e2
      obtain ⟨vx, vr, rfl, h1, h2⟩ := zr2_split S.2.1
      have h1 := zr2_rev h1
      rw [List.reverse_reverse] at h1
      have hlen : vx.reverse.length = n := by rw [← zr2_len h1]; exact e3
      obtain ⟨fr, lo, f1, f2, hM⟩ := hcall mi mr as h _ hm hs
      have hM := hM ws _ h1
      have hrun := row H locs cs sl ls vx.reverse vr fr lo _ _ hM f1 f2 (zblind hX) (fun U hU hW => ⟨rfl, S.2.2.1, by rw [hU]; exact S.2.2.2.1, S.2.2.2.2.1, va_K.moved hW.alike C.2.2.2.2.2.1, by rw [hU]; exact hX.2.1 s U H hW (hX.2.2 s s.heap H C.2.2.2.2.2.2.2.2.1 (fun q hq => S.2.2.2.2.2.1.2.1 q (Nat.lt_of_lt_of_le hq C.2.2.2.2.2.2.2.2.1) (Nat.not_le.mpr hq)) C.2.2.2.2.2.2.2.1), by rw [hU]; exact Nat.le_trans C.2.2.2.2.2.2.2.2.1 S.2.2.2.2.2.1.1⟩) (hrecv as h ws _ H locs S.2.2.2.2.2.1 c4 S.2.2.1 S.2.2.2.1 h1) hlen S.1.choose_spec.1.1 (lv_room (by rw [zcats_ok h2]; exact c1)) ⟨by rw [hbc]; exact c2, by rw [hbs]; exact c3⟩
      rw [List.reverse_reverse] at hrun
      refine zcall_k hrun S.2.2.2.2.2.1 (fun r v h' ws' H1 locs1 q1 q2 q3 q4 q5 q6 q7 => ?_)
      cases r with
      | none =>
        cases v with
        | none => exact hgo _ _ q7 ls _ H1 locs1 ws' (zSat_h S h2 q2 q3 q4 q5 q6)
        | some w => exact q1.elim
      | some a =>
        cases v with
        | none => exact q1.elim
        | some w => exact hgo _ _ q7 ls _ H1 locs1 ws' (zSat_hp S h2 q1 q2 q3 q4 q5 q6)
    · cases hs
  · cases hs
theorem zk_ret0 (C : zCx p R s m args meth c0 D cl tys z X Ts own cc nL nm) {pc bc bs : Nat} (hbc : R.cells = bc) (hbs : R.slots = bs) (hr : ret = none) (hd : decode cc pc = .ok (.return_, 1)) : zOp p l e R s m args below meth c0 Q D cl tys o z X Ts prog ws0 nL cc ret (pc) (zo_ret0 bc bs) := by
  intro call rt go c _ hrt _ hs ls vst H locs ws S
  unfold zo_ret0 at hs
  split at hs
  · split at hs
    · rename_i hcnt
      rw [Bool.and_eq_true] at hcnt
      have e := zr2_nil S.2.1
      subst e
      exact hrt pc ls none none _ H locs ws _ _ trivial S.2.2.1 S.2.2.2.1 S.2.2.2.2.1 S.2.2.2.2.2.1 S.2.2.2.2.2.2 (by rw [hbc]; exact Nat.le_of_ble_eq_true hcnt.1) (by rw [hbs]; exact Nat.le_of_ble_eq_true hcnt.2) ⟨hr, hd⟩ hs
    · cases hs
  · cases hs
theorem zk_ret1 (C : zCx p R s m args meth c0 D cl tys z X Ts own cc nL nm) {pc bc bs t : Nat} {ty : FieldType} (hbc : R.cells = bc) (hbs : R.slots = bs) (hr : ret = some ty) (ht : zftag ty = t) (hd : (decode cc pc = .ok (.ireturn, 1) ∧ (t = 0 ∨ t = 2)) ∨ (decode cc pc = .ok (.lreturn, 1) ∧ ty = .long)) : zOp p l e R s m args below meth c0 Q D cl tys o z X Ts prog ws0 nL cc ret (pc) (zo_ret1 bc bs t) := by
  intro call rt go c _ hrt _ hs ls vst H locs ws S
  unfold zo_ret1 at hs
  split at hs
  · rename_i a h cs sl
    split at hs
    · rename_i hcnt
      simp only [Bool.and_eq_true] at hcnt
      obtain ⟨hfit, k1, k2⟩ := hcnt
      obtain ⟨v, t1, rfl, h1, h2⟩ := zr2_cons S.2.1
      have e := zr2_nil h2
      subst e
      have hn := zfit_ok ht hfit h1
      refine hrt pc ls (some v) (some a) _ H locs ws _ _ h1 S.2.2.1 S.2.2.2.1 S.2.2.2.2.1 S.2.2.2.2.2.1 S.2.2.2.2.2.2 (by rw [hbc]; exact Nat.le_of_ble_eq_true k1) (by rw [hbs]; exact Nat.le_of_ble_eq_true k2) ?_ hs
      rcases hd with ⟨hd, ht2⟩ | ⟨hd, rfl⟩
      · have hx : ∃ x : Int32, v = .int x := by
          rcases a with q | q | r
          · obtain ⟨x, rfl, -⟩ := h1; exact ⟨x, rfl⟩
          · exfalso
            rcases ht2 with e | e <;> rw [e] at hfit <;> simp [zfit, Nat.beq] at hfit
          · exfalso
            rcases ht2 with e | e <;> rw [e] at hfit <;> simp [zfit, Nat.beq] at hfit
        obtain ⟨x, rfl⟩ := hx
        exact Or.inl ⟨x, ty, rfl, hr, hn.1, hd⟩
      · have hx : ∃ x : Int64, v = .long x := by
          cases v <;> first | exact ⟨_, rfl⟩ | (have h := hn.2; simp [fits] at h)
        obtain ⟨x, rfl⟩ := hx
        exact Or.inr (Or.inl ⟨x, rfl, hr, hd⟩)
    · cases hs
  · cases hs
theorem zret_MQ {bc bs : Nat} {k : zRt} (hx : p.tables.exec = Jvm.exec) (hb : c0.code = cc) (hlocks : meth.locks = false) (hr : meth.sig.returnType = ret) (hbc : R.cells = bc) (hbs : R.slots = bs) : zRetOk p l e R s m args below meth c0 (MQ below (zQ D cl tys o z ws0 k) args s bc bs (zA z)) D cl tys o z ws0 cc ret k := by
  intro pc ls v r h H locs ws cells slots q1 q2 q3 q4 q5 q6 q7 q8 q9 q10
  have hq : ∀ t : State, t.heap = H → s.WarmedH t.vm → zQ D cl tys o z ws0 k args s (.returned v) t := fun t ht _ => ⟨⟨r, v, h, ws, rfl, q1, q6, q2, by rw [ht]; exact q3, q4, q10⟩, q5.F ht⟩
  refine W.widen (k := bc) (n := bs) (by rw [← hbc]; exact q7) (by rw [← hbs]; exact q8) ?_
  cases v with
  | none =>
    obtain ⟨e1, e2⟩ := q9
    exact W.vret hx hb (hr.trans e1) hq q5.2.2 e2 hlocks
  | some w =>
    rcases q9 with ⟨x, ty, rfl, e1, e2, e3⟩ | ⟨x, rfl, e1, e3⟩ | ⟨x, rt, rfl, e1, e2, e3⟩
    · exact W.zret hx hb (hr.trans e1) e2 hq q5.2.2 e3 hlocks
    · exact W.lret hx hb (hr.trans e1) hq q5.2.2 e3 hlocks
    · exact W.aret hx hb (hr.trans e1) e2 (Or.inr ⟨x, rfl⟩) hq q5.2.2 e3 hlocks
end ZHEAP
/-! THE WALK ITSELF -/
def zargs : Nat → List zAV → zL
  | _, [] => []
  | i, a :: t => (i, a) :: zargs (i + zcat a) t
noncomputable def zcall (prog : List zM) (ih : Nat → Nat → zCode → zRt → Nat → zK → Bool) (fr lo : Nat) : zCall := fun mi as h k => match zget prog mi with
  | none => false
  | some mr => match fr with
    | 0 => false
    | f + 1 => if Nat.ble (219 + mr.2.2.1) lo && (Nat.ble 1 f && Nat.ble (zcats as) mr.2.2.1) then ih f (lo - (19 + mr.2.2.1)) mr.2.2.2.2.2.2 k 0 (zargs 0 as, [], h, 0, 0) else false
noncomputable def zrun (prog : List zM) (n : Nat) : Nat → Nat → zCode → zRt → Nat → zK → Bool := Nat.rec (motive := fun _ => Nat → Nat → zCode → zRt → Nat → zK → Bool) (fun _ _ _ _ _ _ => false) (fun _ ih fr lo code rt pc c => match zrget code pc with
  | some (some sem) => sem (zcall prog ih fr lo) rt (ih fr lo code rt) c
  | _ => false) n
theorem zrun_s {prog : List zM} {n fr lo : Nat} {code : zCode} {rt : zRt} {pc : Nat} {c : zK} (h : zrun prog (n + 1) fr lo code rt pc c = true) : ∃ sem, zrget code pc = some (some sem) ∧ sem (zcall prog (zrun prog n) fr lo) rt (zrun prog n fr lo code rt) c = true := by
  have h : (match zrget code pc with | some (some sem) => sem (zcall prog (zrun prog n) fr lo) rt (zrun prog n fr lo code rt) c | _ => false) = true := h
  split at h
  · rename_i sem hc
    exact ⟨sem, hc, h⟩
  · cases h
def zCodeOk (l : Launch) (D : va_G) (cl : List vw_C) (tys : List (ClassId × FieldType)) (o : zO) (z : Nat) (X : State → Heap → Prop) (Ts : List Cond) (prog : List zM) (mr : zM) : Prop :=
  ∀ (p : Program) (e : Env) (R : Room) (s : State) (m : MethodId) (args : Array Value) (below : List Frame) (meth : Method) (c0 : Code) (Q : State → Prop) (ws0 : va_W), R.cells = mr.2.2.2.2.1 → R.slots = mr.2.2.2.2.2.1 → zCx p R s m args meth c0 D cl tys z X Ts mr.1.cls mr.2.1 mr.2.2.1 mr.1.name → ∀ pc sem, zrget mr.2.2.2.2.2.2 pc = some (some sem) → zOp p l e R s m args below meth c0 Q D cl tys o z X Ts prog ws0 mr.2.2.1 mr.2.1 mr.2.2.2.1 pc sem
def zProgOk (l : Launch) (D : va_G) (cl : List vw_C) (tys : List (ClassId × FieldType)) (o : zO) (z : Nat) (X : State → Heap → Prop) (Ts : List Cond) (prog : List zM) : Prop :=
  ∀ mi mr, zget prog mi = some mr → plainName mr.1.cls = true ∧ zCodeOk l D cl tys o z X Ts prog mr
section ZRUN
variable {p : Program} {l : Launch} {e : Env} {R : Room} {s : State} {m : MethodId} {args : Array Value} {below : List Frame} {meth : Method} {c0 : Code} {Q : State → Prop} {D : va_G} {cl : List vw_C} {tys : List (ClassId × FieldType)} {o : zO} {z : Nat} {X : State → Heap → Prop} {Ts : List Cond} {prog : List zM} {ws0 : va_W} {nL : Nat} {own : String} {cc : ByteArray} {ret : Option FieldType} {nm : String}
theorem zargs_ok {ad : Nat → Option Nat} : ∀ {i : Nat} {as : List zAV} {vs : List Value}, zr2 (zg o ad) as vs → zr2 (zlr o ad) (zargs i as) (lv_args i vs)
  | _, [], [], _ => trivial
  | i, a :: as, v :: vs, h => by
    refine ⟨⟨rfl, h.1⟩, ?_⟩
    have e : (if v.category = 2 then i + 2 else i + 1) = i + zcat a := by
      rw [zg_cat h.1]
      rcases a with q | q | q <;> simp [zcat]
    rw [e]
    exact zargs_ok h.2
  | _, [], _ :: _, h => h.elim
  | _, _ :: _, [], h => h.elim
theorem zsl_len {ad : Nat → Option Nat} : ∀ {as : List zAV} {vs : List Value}, zr2 (zg o ad) as vs → (lg_sl vs).length = zcats as
  | [], [], _ => rfl
  | a :: as, v :: vs, h => by
    have e := zsl_len h.2
    unfold lg_sl at e ⊢
    rw [List.flatMap_cons, List.length_append, e, zg_cat h.1]
    rcases a with q | q | q <;> simp [zcat, zcats]
  | [], _ :: _, h => h.elim
  | _ :: _, [], h => h.elim
theorem zrun_ok (hX : zXok X z) (hprog : zProgOk l D cl tys o z X Ts prog) : ∀ (n : Nat) (p : Program) (e : Env) (R : Room) (s : State) (m : MethodId) (args : Array Value) (below : List Frame) (meth : Method) (c0 : Code) (Q : State → Prop) (ws0 : va_W) (nL : Nat) (cc : ByteArray) (ret : Option FieldType) (code : zCode), (∀ pc sem, zrget code pc = some (some sem) → zOp p l e R s m args below meth c0 Q D cl tys o z X Ts prog ws0 nL cc ret (pc) (sem)) → ∀ (fr lo : Nat), fr ≤ R.frames → lo ≤ R.locals → ∀ (rt : zRt), zRetOk p l e R s m args below meth c0 Q D cl tys o z ws0 cc ret rt → ∀ (pc : Nat) (c : zK), zrun prog n fr lo code rt pc c = true → zGo p l e R s m args below meth c0 Q D cl tys o z ws0 nL pc c := by
  intro n
  induction n with
  | zero => intro p e R s m args below meth c0 Q ws0 nL cc ret code _ fr lo _ _ rt _ pc c h; cases h
  | succ n ih =>
    intro p e R s m args below meth c0 Q ws0 nL cc ret code hcode fr lo hfr hlo rt hrt pc c h
    obtain ⟨sem, hsem, hs⟩ := zrun_s h
    refine hcode pc sem hsem _ rt _ c ?_ hrt (fun pc' c' h' => ih p e R s m args below meth c0 Q ws0 nL cc ret code hcode fr lo hfr hlo rt hrt pc' c' h') hs
    intro mi mr av h k hm hc
    unfold zcall at hc
    rw [hm] at hc
    dsimp only at hc
    cases fr with
    | zero => cases hc
    | succ f =>
      dsimp only at hc
      split at hc
      · rename_i hcnt
        simp only [Bool.and_eq_true] at hcnt
        have k1 := Nat.le_of_ble_eq_true hcnt.1
        have k0 := Nat.le_of_ble_eq_true hcnt.2.1
        have k2 := Nat.le_of_ble_eq_true hcnt.2.2
        refine ⟨f, lo - (19 + mr.2.2.1), by omega, by omega, ?_⟩
        intro ws vs hvs
        obtain ⟨hy, hmr⟩ := hprog mi mr hm
        refine Met.ofW (cc := mr.2.1) (maxL := mr.2.2.1) (ret := mr.2.2.2.1) hy rfl ?_
        intro p' e' s' m' args' below' meth' c' s₁ B hml hv
        obtain ⟨rfl, v1, v2, v3, v4, v5, v6⟩ := hv
        have hts := atoms_spec B.pre
        have CX' : zCx p' { frames := f, cells := mr.2.2.2.2.1, slots := mr.2.2.2.2.2.1, locals := lo - (19 + mr.2.2.1) } s' m' vs.toArray meth' c' D cl tys z X Ts mr.1.cls mr.2.1 mr.2.2.1 mr.1.name := ⟨B.exec, B.bytes, hml, findClass_of_methodNamed B.named, fun w hw => hts w (List.mem_cons_of_mem _ hw), v4, (name_of_methodNamed B.named B.method).1, v5, v6, k0, by show 200 ≤ lo - (19 + mr.2.2.1); omega⟩
        have hl := lv_entry vs (n := mr.2.2.1) (by rw [zsl_len hvs]; exact k2)
        rw [lg_entry_eq]
        refine ih p' e' _ s' m' vs.toArray below' meth' c' _ ws mr.2.2.1 mr.2.1 mr.2.2.2.1 mr.2.2.2.2.2.2 (fun pc sem hp => hmr p' e' _ s' m' vs.toArray below' meth' c' _ ws rfl rfl CX' pc sem hp) f (lo - (19 + mr.2.2.1)) (Nat.le_refl _) (Nat.le_refl _) k (zret_MQ B.exec B.bytes B.notSynchronized B.returns rfl rfl) 0 _ hc _ [] s'.heap [] ws ⟨⟨_, hl, zargs_ok hvs⟩, trivial, v1, v2, v3, va_S.rf, fun _ _ q => q⟩
      · cases hc
end ZRUN
