/-! FIELDS, ARRAYS, NEW CELLS, CALLS, ANSWERS -/
noncomputable def zo_get (nx ci k : Nat) : zSem := fun _ _ go c => match c with
  | (al, .inr (.inr (.inl q)) :: st, h, n) => match zrget h.2.1 q with
    | some (.inr (ci', fs)) => if Nat.beq ci' ci then (match zget fs k with
      | some a => go nx (al, zstrip a :: st, h, n)
      | none => false) else false
    | _ => false
  | _ => false
/-- what a field takes: 0 an int, 1 a long, 2 a boolean, 3 a reference -/
def zfit (t : Nat) (a : zAV) : Bool := match a with
  | .inl q => Nat.beq t 0 || (Nat.beq t 2 && (zle 0 q.1.1 && zle q.1.2 1))
  | .inr (.inl _) => Nat.beq t 1
  | .inr (.inr _) => Nat.beq t 3
def zftag (ty : FieldType) : Nat := match ty with
  | .int => 0
  | .long => 1
  | .boolean => 2
  | .object _ => 3
  | .array _ => 3
  | _ => 9
noncomputable def zo_put (nx ci k t : Nat) : zSem := fun _ _ go c => match c with
  | (al, a :: .inr (.inr (.inl q)) :: st, h, n) => match zrget h.2.1 q with
    | some (.inr (ci', fs)) => if Nat.beq ci' ci && (zfit t a && Nat.blt k fs.length) then zfr (zrset h.2.1 q (.inr (ci', zset fs a k))) q (go nx (al, st, (h.1, zrset h.2.1 q (.inr (ci', zset fs a k)), zdirt h.2.2 q k), n)) else false
    | _ => false
  | _ => false
noncomputable def zo_ald (nx t : Nat) : zSem := fun _ _ go c => match c with
  | (al, .inl i :: .inr (.inr (.inl q)) :: st, h, n) => match zrget h.2.1 q with
    | some (.inl (t', len, r)) => if Nat.beq t' t && (zle 0 i.1.1 && zle (i.1.2 + 1) (Int.ofNat len)) then (match zload r i.1.1.toNat i.1.2.toNat with
      | some a => go nx (al, zstrip a :: st, h, n)
      | none => false) else false
    | _ => false
  | _ => false
/-- a reference out of an array: any array of references -/
noncomputable def zo_aald (nx : Nat) : zSem := fun _ _ go c => match c with
  | (al, .inl i :: .inr (.inr (.inl q)) :: st, h, n) => match zrget h.2.1 q with
    | some (.inl (t', len, r)) => if Nat.ble 4 t' && (zle i.1.2 i.1.1 && (zle 0 i.1.1 && zle (i.1.1 + 1) (Int.ofNat len))) then (match zaget r i.1.1.toNat with
      | some a => go nx (al, zstrip a :: st, h, n)
      | none => false) else false
    | _ => false
  | _ => false
noncomputable def zo_ast (nx t : Nat) : zSem := fun _ _ go c => match c with
  | (al, a :: .inl i :: .inr (.inr (.inl q)) :: st, h, n) => match zrget h.2.1 q with
    | some (.inl (t', len, r)) => if Nat.beq t' t && (zfit t a && (zle 0 i.1.1 && zle (i.1.2 + 1) (Int.ofNat len))) then (match zstore r i.1.1.toNat i.1.2.toNat a with
      | some r' => zfr (zrset h.2.1 q (.inl (t', len, r'))) q (go nx (al, st, (h.1, zrset h.2.1 q (.inl (t', len, r')), zdirt h.2.2 q 0), n))
      | none => false) else false
    | _ => false
  | _ => false
/-- an object of ours into an array of its kind -/
noncomputable def zo_aast (nx : Nat) : zSem := fun _ _ go c => match c with
  | (al, .inr (.inr (.inl v)) :: .inl i :: .inr (.inr (.inl q)) :: st, h, n) => match zrget h.2.1 q with
    | some (.inl (t', len, r)) => (match zrget h.2.1 v with
      | some (.inr (ci, _)) => if Nat.beq t' (ci + 4) && (zle 0 i.1.1 && zle (i.1.2 + 1) (Int.ofNat len)) then (match zstore r i.1.1.toNat i.1.2.toNat (.inr (.inr (.inl v))) with
        | some r' => zfr (zrset h.2.1 q (.inl (t', len, r'))) q (go nx (al, st, (h.1, zrset h.2.1 q (.inl (t', len, r')), zdirt h.2.2 q 0), n))
        | none => false) else false
      | _ => false)
    | _ => false
  | _ => false
noncomputable def zo_len (nx : Nat) : zSem := fun _ _ go c => match c with
  | (al, .inr (.inr (.inl q)) :: st, h, n) => match zrget h.2.1 q with
    | some (.inl (_, len, _)) => if Nat.blt len 2147483648 then go nx (al, .inl ((Int.ofNat len, Int.ofNat len), none) :: st, h, n) else false
    | _ => false
  | _ => false
noncomputable def zo_new (nx ci N bc bs : Nat) (fs : List zAV) : zSem := fun _ _ go c => match c with
  | (al, st, h, cs, sl) => match zrget h.2.1 h.1 with
    | some _ => if Nat.blt cs bc && Nat.ble (sl + N) bs then zfr (zrset h.2.1 h.1 (.inr (ci, fs))) h.1 (go nx (al, .inr (.inr (.inl h.1)) :: st, (h.1 + 1, zrset h.2.1 h.1 (.inr (ci, fs)), h.2.2), cs + 1, sl + N)) else false
    | none => false
noncomputable def zo_newa (nx t bc bs : Nat) (d : zAV) : zSem := fun _ _ go c => match c with
  | (al, .inl i :: st, h, cs, sl) => match zrget h.2.1 h.1 with
    | some _ => if zle i.1.2 i.1.1 && (zle 0 i.1.1 && (Nat.ble i.1.1.toNat 1000000 && (Nat.blt cs bc && Nat.ble (sl + i.1.1.toNat) bs))) then zfr (zrset h.2.1 h.1 (.inl (t, i.1.1.toNat, zrmk i.1.1.toNat d))) h.1 (go nx (al, .inr (.inr (.inl h.1)) :: st, (h.1 + 1, zrset h.2.1 h.1 (.inl (t, i.1.1.toNat, zrmk i.1.1.toNat d)), h.2.2), cs + 1, sl + i.1.1.toNat)) else false
    | none => false
  | _ => false
/-- n values off the stack, the deepest first -/
def zpop : Nat → List zAV → List zAV → Option (List zAV × List zAV)
  | 0, acc, st => some (acc, st)
  | n + 1, acc, a :: st => zpop n (a :: acc) st
  | _ + 1, _, [] => none
theorem zpop_ok : ∀ {n : Nat} {acc st as rest : List zAV}, zpop n acc st = some (as, rest) → ∃ xs, as = xs ++ acc ∧ st = xs.reverse ++ rest ∧ xs.length = n
  | 0, acc, st, as, rest, h => by cases h; exact ⟨[], rfl, rfl, rfl⟩
  | n + 1, acc, a :: st, as, rest, h => by
    obtain ⟨xs, h1, h2, h3⟩ := zpop_ok (n := n) h
    exact ⟨xs ++ [a], by rw [h1]; simp, by rw [h2]; simp, by simp [h3]⟩
  | _ + 1, _, [], _, _, h => by cases h
def zcats : List zAV → Nat
  | [] => 0
  | a :: t => zcat a + zcats t
/-- a call of method mi with n values; its cells mc and slots ms are counted as its own table has them -/
def zo_call (nx mi n mc ms bc bs : Nat) (recv : List zAV → zH → Bool) : zSem := fun call _ go c => match c with
  | (al, st, h, cs, sl) => match zpop n [] st with
    | some (as, rest) => if Nat.ble (zcats rest) 8 && (Nat.ble (cs + mc) bc && (Nat.ble (sl + ms) bs && recv as h)) then call mi as h (fun r h' => match r with
      | none => go nx (al, rest, (h'.1, h'.2.1, Nat.lor h.2.2 h'.2.2), cs + mc, sl + ms)
      | some a => go nx (al, zstrip a :: rest, (h'.1, h'.2.1, Nat.lor h.2.2 h'.2.2), cs + mc, sl + ms)) else false
    | none => false
/-- the receiver is an object of the kind ci -/
noncomputable def zrecv (ci : Nat) (as : List zAV) (h : zH) : Bool := match as with
  | .inr (.inr (.inl q)) :: _ => (match zrget h.2.1 q with
    | some (.inr (ci', _)) => Nat.beq ci' ci
    | _ => false)
  | _ => false
/-- any place -/
def zrecvI (as : List zAV) (_ : zH) : Bool := match as with
  | .inr (.inr (.inl _)) :: _ => true
  | _ => false
def zo_ret0 (bc bs : Nat) : zSem := fun _ rt _ c => match c with
  | (_, [], h, cs, sl) => if Nat.ble cs bc && Nat.ble sl bs then rt none h else false
  | _ => false
def zo_ret1 (bc bs : Nat) (t : Nat) : zSem := fun _ rt _ c => match c with
  | (_, [a], h, cs, sl) => if zfit t a && (Nat.ble cs bc && Nat.ble sl bs) then rt (some (zstrip a)) h else false
  | _ => false
section ZHEAP
variable {p : Program} {l : Launch} {e : Env} {R : Room} {s : State} {m : MethodId} {args : Array Value} {below : List Frame} {meth : Method} {c0 : Code} {Q : State → Prop} {D : va_G} {cl : List vw_C} {tys : List (ClassId × FieldType)} {o : zO} {z : Nat} {X : State → Heap → Prop} {Ts : List Cond} {prog : List zM} {ws0 : va_W} {nL : Nat} {own : String} {cc : ByteArray} {ret : Option FieldType} {nm : String}
theorem zSat_h {al : zL} {st st' : List zAV} {h h' : zH} {k k' : Nat × Nat} {ls : Array Slot} {vst vst' : List Value} {H H' H0 : Heap} {locs locs' : List Loc} {ws ws' : va_W} (S : zSat D cl tys o z ws0 nL H0 (al, st, h, k) ls vst H locs ws) (hst : zr2 (zg o (zad ws)) st' vst') (hsub : zsub (zad ws) (zad ws')) (hw : zwr cl tys o h' ws') (hP : va_P D cl ws' H') (hD : va_D (zA z) ws') (hS : va_S (zA z) H0 H' locs') (hcg : zcg h'.2.2 ws0 ws') : zSat D cl tys o z ws0 nL H0 (al, st', h', k') ls vst' H' locs' ws' := by
  obtain ⟨⟨lv, h1, h2⟩, -, -, -, -, -, h3⟩ := S
  exact ⟨⟨lv, h1, zr2_imp (fun a b q => ⟨q.1, zg_mono hsub q.2⟩) h2⟩, zr2_imp (fun a b q => zg_mono hsub q) hst, hw, hP, hD, hS, hcg⟩
theorem zSat_hp {al : zL} {st st' : List zAV} {h h' : zH} {k k' : Nat × Nat} {ls : Array Slot} {vst vst' : List Value} {H H' H0 : Heap} {locs locs' : List Loc} {ws ws' : va_W} {a : zAV} {v : Value} (S : zSat D cl tys o z ws0 nL H0 (al, st, h, k) ls vst H locs ws) (hst : zr2 (zg o (zad ws)) st' vst') (hv : zg o (zad ws') a v) (hsub : zsub (zad ws) (zad ws')) (hw : zwr cl tys o h' ws') (hP : va_P D cl ws' H') (hD : va_D (zA z) ws') (hS : va_S (zA z) H0 H' locs') (hcg : zcg h'.2.2 ws0 ws') : zSat D cl tys o z ws0 nL H0 (al, a :: st', h', k') ls (v :: vst') H' locs' ws' := by
  have S' := zSat_h (k' := k') S hst hsub hw hP hD hS hcg
  exact zSat_st S' ⟨hv, S'.2.1⟩
theorem zk_get (C : zCx p R s m args meth c0 D cl tys z X Ts own cc nL nm) {pc ci k : Nat} (row : ∀ (H : Heap) (locs : List Loc) (cells slots : Nat) (ls : Array Slot) (rest : List Value) (ws : va_W) (q0 a : Nat) (fs : List Value) (v : Value), va_P D cl ws H → ws[q0]? = some (a, .inr (ci, fs)) → fs[k]? = some v → W p l e R s m args below meth c0 H locs cells slots Q (F0 m (pc + 3) ls (v :: rest)) → W p l e R s m args below meth c0 H locs cells slots Q (F0 m pc ls (.ref a :: rest))) : zOp p l e R s m args below meth c0 Q D cl tys o z X Ts prog ws0 nL cc ret (pc) (zo_get (pc + 3) ci k) := by
  intro call rt go c _ _ hgo hs fv hfv ls vst H locs ws S
  unfold zo_get at hs
  split at hs
  · split at hs
    · rename_i hc
      split at hs
      · rename_i he
        have he := Nat.eq_of_beq_eq_true he
        subst he
        split at hs
        · rename_i hf
          obtain ⟨v, t, rfl, ⟨a, ha, rfl⟩, h2⟩ := zr2_cons S.2.1
          obtain ⟨e0, hw, vs, rfl, hvs⟩ := zwr_at S.2.2.1 ha hc
          rw [zget_eq] at hf
          obtain ⟨w, hw1, hw2⟩ := zr2_get k hvs hf
          exact row _ _ _ _ _ _ ws _ _ _ w S.2.2.2.1 hw hw1 (hgo _ _ hs fv hfv ls _ H locs ws (zSat_st S ⟨zg_strip hw2, h2⟩))
        · cases hs
      · cases hs
    · cases hs
  · cases hs
theorem zfit_ok {t : Nat} {a : zAV} {v : Value} {ad : Nat → Option Nat} {ty : FieldType} (ht : zftag ty = t) (h : zfit t a = true) (hv : zg o ad a v) : narrow ty v = v ∧ fits ty v = true := by
  subst ht
  rcases a with q | q | r
  · obtain ⟨x, rfl, ⟨h1, h2⟩, -⟩ := hv
    simp only [zfit, Bool.or_eq_true, Bool.and_eq_true, zle_iff] at h
    cases ty <;> simp [zftag, Nat.beq] at h
    · exact ⟨rfl, rfl⟩
    · have hx : x = 0 ∨ x = 1 := by
        rcases (show x.toInt = 0 ∨ x.toInt = 1 by omega) with e | e
        · left; exact Int32.toInt_inj.mp e
        · right; exact Int32.toInt_inj.mp e
      rcases hx with rfl | rfl
      · exact ⟨by decide, by decide⟩
      · exact ⟨by decide, by decide⟩
  · obtain ⟨x, rfl, -⟩ := hv
    cases ty <;> simp [zfit, zftag, Nat.beq] at h
    exact ⟨rfl, rfl⟩
  · rcases zref hv with rfl | ⟨q, rfl⟩ <;> cases ty <;> simp [zfit, zftag, Nat.beq] at h <;> exact ⟨rfl, rfl⟩
theorem zk_put (C : zCx p R s m args meth c0 D cl tys z X Ts own cc nL nm) {pc ci k t : Nat} {ty : FieldType} (ht : zftag ty = t) (row : ∀ (H : Heap) (locs : List Loc) (cells slots : Nat) (ls : Array Slot) (rest : List Value) (ws : va_W) (q0 a : Nat) (fs : List Value) (v : Value), va_P D cl ws H → va_D (zA z) ws → va_S (zA z) s.heap H locs → ws[q0]? = some (a, .inr (ci, fs)) → k < fs.length → narrow ty v = v → fits ty v = true → (∀ (H1 : Heap) (locs1 : List Loc), va_P D cl (ws.set q0 (a, .inr (ci, fs.set k v))) H1 → va_D (zA z) (ws.set q0 (a, .inr (ci, fs.set k v))) → va_S (zA z) s.heap H1 locs1 → W p l e R s m args below meth c0 H1 locs1 cells slots Q (F0 m (pc + 3) ls rest)) → W p l e R s m args below meth c0 H locs cells slots Q (F0 m pc ls (v :: .ref a :: rest))) : zOp p l e R s m args below meth c0 Q D cl tys o z X Ts prog ws0 nL cc ret (pc) (zo_put (pc + 3) ci k t) := by
  intro call rt go c _ _ hgo hs fv hfv ls vst H locs ws S
  unfold zo_put at hs
  split at hs
  · split at hs
    · rename_i hc
      split at hs
      · rename_i he
        simp only [Bool.and_eq_true] at he
        obtain ⟨he, hfit, hk⟩ := he
        replace hs := zfr_ok hs
        have he := Nat.eq_of_beq_eq_true he
        subst he
        obtain ⟨w, t1, rfl, hw1, h2a⟩ := zr2_cons S.2.1
        obtain ⟨v, t, rfl, ⟨a, ha, rfl⟩, h2⟩ := zr2_cons h2a
        obtain ⟨e0, hw, vs, rfl, hvs⟩ := zwr_at S.2.2.1 ha hc
        obtain ⟨n1, n2⟩ := zfit_ok ht hfit hw1
        have hk : k < vs.length := by rw [← zr2_len hvs]; exact Nat.lt_of_lt_of_le (Nat.lt_succ_self k) (Nat.le_of_ble_eq_true hk)
        refine row _ _ _ _ _ _ ws _ _ _ w S.2.2.2.1 S.2.2.2.2.1 S.2.2.2.2.2.1 hw hk n1 n2 (fun H1 locs1 hP hD hS => ?_)
        refine hgo _ _ hs fv hfv ls _ H1 locs1 _ (zSat_h S h2 (by rw [zad_set hw]; exact fun _ _ q => q) (zwr_set S.2.2.1 hw hc ⟨_, rfl, ?_⟩) hP hD hS (zcg_obj S.2.2.2.2.2.2 hw))
        rw [zset_eq]
        exact zr2_set k hvs (zgH_of hw1)
      · cases hs
    · cases hs
  · cases hs
theorem zix {i : zI} {x : Int32} {n : Nat} (hx : zmi i x) (h1 : zle i.2 i.1 = true) (h2 : zle 0 i.1 = true) (h3 : zle (i.1 + 1) (Int.ofNat n) = true) : vp_in x n ∧ x.toNatClampNeg = i.1.toNat ∧ i.1.toNat < n := by
  rw [zle_iff] at h1 h2 h3
  obtain ⟨g1, g2⟩ := hx
  have h3 : i.1 + 1 ≤ (n : Int) := h3
  have e : x.toNatClampNeg = x.toInt.toNat := rfl
  refine ⟨vp_in_iff.mpr ⟨by omega, by omega⟩, by rw [e]; omega, by omega⟩
theorem zk_iald (C : zCx p R s m args meth c0 D cl tys z X Ts own cc nL nm) {pc : Nat} (hd : decode cc pc = .ok (.iaload, 1)) : zOp p l e R s m args below meth c0 Q D cl tys o z X Ts prog ws0 nL cc ret (pc) (zo_ald (pc + 1) 0) := by
  intro call rt go c _ _ hgo hs fv hfv ls vst H locs ws S
  unfold zo_ald at hs
  split at hs
  · split at hs
    · rename_i hc
      split at hs
      · rename_i he
        simp only [Bool.and_eq_true] at he
        obtain ⟨he, x2, x3⟩ := he
        have he := Nat.eq_of_beq_eq_true he
        subst he
        split at hs
        · rename_i hr
          obtain ⟨w, t1, rfl, hw1, h2a⟩ := zr2_cons S.2.1
          obtain ⟨v, t, rfl, ⟨a, ha, rfl⟩, h2⟩ := zr2_cons h2a
          obtain ⟨x, rfl, hx⟩ := zint hw1
          obtain ⟨e0, hw, cA, hA, f, rfl, hf⟩ := zwr_at S.2.2.1 ha hc
          obtain ⟨b1, b2, b4, b3⟩ := zixI hx.1 x2 x3
          obtain ⟨a1, g1, g2⟩ := hf _ b3
          obtain ⟨t0, ht0⟩ := List.getElem?_of_mem hA
          refine va_iald C.1 C.2.1 C.2.2.2.2.2.1 S.2.2.2.1 _ t0 hw ht0 b1 hd ?_
          exact hgo _ _ hs fv hfv ls _ H locs ws (zSat_st S ⟨zg_strip (zload_ok hr b2 b4 g1 g2), h2⟩)
        · cases hs
      · cases hs
    · cases hs
  · cases hs
theorem zk_lald (C : zCx p R s m args meth c0 D cl tys z X Ts own cc nL nm) {pc : Nat} (hd : decode cc pc = .ok (.laload, 1)) : zOp p l e R s m args below meth c0 Q D cl tys o z X Ts prog ws0 nL cc ret (pc) (zo_ald (pc + 1) 1) := by
  intro call rt go c _ _ hgo hs fv hfv ls vst H locs ws S
  unfold zo_ald at hs
  split at hs
  · split at hs
    · rename_i hc
      split at hs
      · rename_i he
        simp only [Bool.and_eq_true] at he
        obtain ⟨he, x2, x3⟩ := he
        have he := Nat.eq_of_beq_eq_true he
        subst he
        split at hs
        · rename_i hr
          obtain ⟨w, t1, rfl, hw1, h2a⟩ := zr2_cons S.2.1
          obtain ⟨v, t, rfl, ⟨a, ha, rfl⟩, h2⟩ := zr2_cons h2a
          obtain ⟨x, rfl, hx⟩ := zint hw1
          obtain ⟨e0, hw, cA, hA, f, rfl, hf⟩ := zwr_at S.2.2.1 ha hc
          obtain ⟨b1, b2, b4, b3⟩ := zixI hx.1 x2 x3
          obtain ⟨a1, g1, g2⟩ := hf _ b3
          obtain ⟨t0, ht0⟩ := List.getElem?_of_mem hA
          refine va_lald C.1 C.2.1 C.2.2.2.2.2.1 S.2.2.2.1 _ t0 hw ht0 b1 hd ?_
          exact hgo _ _ hs fv hfv ls _ H locs ws (zSat_st S ⟨zg_strip (zload_ok hr b2 b4 g1 g2), h2⟩)
        · cases hs
      · cases hs
    · cases hs
  · cases hs
theorem zk_zald (C : zCx p R s m args meth c0 D cl tys z X Ts own cc nL nm) {pc : Nat} (hd : decode cc pc = .ok (.baload, 1)) : zOp p l e R s m args below meth c0 Q D cl tys o z X Ts prog ws0 nL cc ret (pc) (zo_ald (pc + 1) 2) := by
  intro call rt go c _ _ hgo hs fv hfv ls vst H locs ws S
  unfold zo_ald at hs
  split at hs
  · split at hs
    · rename_i hc
      split at hs
      · rename_i he
        simp only [Bool.and_eq_true] at he
        obtain ⟨he, x2, x3⟩ := he
        have he := Nat.eq_of_beq_eq_true he
        subst he
        split at hs
        · rename_i hr
          obtain ⟨w, t1, rfl, hw1, h2a⟩ := zr2_cons S.2.1
          obtain ⟨v, t, rfl, ⟨a, ha, rfl⟩, h2⟩ := zr2_cons h2a
          obtain ⟨x, rfl, hx⟩ := zint hw1
          obtain ⟨e0, hw, cA, hA, f, rfl, hf⟩ := zwr_at S.2.2.1 ha hc
          obtain ⟨b1, b2, b4, b3⟩ := zixI hx.1 x2 x3
          obtain ⟨a1, g1, g2⟩ := hf _ b3
          obtain ⟨t0, ht0⟩ := List.getElem?_of_mem hA
          refine va_zald C.1 C.2.1 C.2.2.2.2.2.1 S.2.2.2.1 _ t0 hw ht0 b1 hd ?_
          exact hgo _ _ hs fv hfv ls _ H locs ws (zSat_st S ⟨zg_strip (zload_ok hr b2 b4 g1 g2), h2⟩)
        · cases hs
      · cases hs
    · cases hs
  · cases hs
theorem zamk_get {n i : Nat} {a : zAV} (h : i < n) : zaget (zrmk n a) i = some a := by
  rw [zaget_n (by unfold zrmk; rw [List.replicate_succ]; rfl)]
  exact zrmk_get h
theorem zup {n : Nat} {r : zR zAV} {i : Nat} {a : zAV} {P : zAV → Nat → Prop} {Q1 : zAV → Nat → Prop} (hi : i < n) (h : ∀ j, j < n → ∃ b, zrget r j = some b ∧ P b j) (ha : Q1 a i) (hP : ∀ b j, j ≠ i → P b j → Q1 b j) : ∀ j, j < n → ∃ b, zrget (zrset r i a) j = some b ∧ Q1 b j := by
  intro j hj
  obtain ⟨b0, g0, -⟩ := h i hi
  rw [zrget_set g0]
  by_cases e : j = i
  · subst e
    rw [if_pos rfl]
    exact ⟨a, rfl, ha⟩
  · rw [if_neg e]
    obtain ⟨b, g1, g2⟩ := h j hj
    exact ⟨b, g1, hP b j e g2⟩
theorem zk_iast (C : zCx p R s m args meth c0 D cl tys z X Ts own cc nL nm) {pc : Nat} (hd : decode cc pc = .ok (.iastore, 1)) : zOp p l e R s m args below meth c0 Q D cl tys o z X Ts prog ws0 nL cc ret (pc) (zo_ast (pc + 1) 0) := by
  intro call rt go c _ _ hgo hs fv hfv ls vst H locs ws S
  unfold zo_ast at hs
  split at hs
  · split at hs
    · rename_i hc
      split at hs
      · rename_i he
        simp only [Bool.and_eq_true] at he
        obtain ⟨he, hfit, x2, x3⟩ := he
        have he := Nat.eq_of_beq_eq_true he
        subst he
        split at hs
        rotate_left
        · cases hs
        rename_i r' hst
        replace hs := zfr_ok hs
        obtain ⟨u, t0, rfl, hu1, h2a⟩ := zr2_cons S.2.1
        obtain ⟨w, t1, rfl, hw1, h2b⟩ := zr2_cons h2a
        obtain ⟨v, t, rfl, ⟨a, ha, rfl⟩, h2⟩ := zr2_cons h2b
        obtain ⟨x, rfl, hx⟩ := zint hw1
        obtain ⟨y, rfl⟩ : ∃ y : Int32, u = .int y := by
          have h := zfit_ok (ty := .int) rfl hfit hu1
          cases u <;> first | exact ⟨_, rfl⟩ | (exact absurd h.2 (by decide)) | (simp [fits] at h)
        obtain ⟨e0, hw, cA, hA, f, rfl, hf⟩ := zwr_at S.2.2.1 ha hc
        obtain ⟨b1, b2, b4, b3⟩ := zixI hx.1 x2 x3
        obtain ⟨t0, ht0⟩ := List.getElem?_of_mem hA
        refine va_iast C.1 C.2.1 C.2.2.2.2.2.1 S.2.2.2.1 S.2.2.2.2.1 S.2.2.2.2.2.1 _ t0 hw ht0 b1 hd (fun H1 locs1 hP hD hS => ?_)
        refine hgo _ _ hs fv hfv ls _ H1 locs1 _ (zSat_h S h2 (by rw [zad_set hw]; exact fun _ _ q => q) (zwr_set S.2.2.1 hw hc ⟨cA, hA, _, rfl, ?_⟩) hP hD hS (zcg_arr S.2.2.2.2.2.2 hw))
        have key := zstore_ok (g := fun i => Value.int (f i)) hst b2 b4 b3 hf (zgH_of hu1)
        intro i hi
        obtain ⟨b, q1, q2⟩ := key i hi
        refine ⟨b, q1, ?_⟩
        rw [upd]
        by_cases e9 : i = x.toNatClampNeg
        · rw [if_pos e9] at q2 ⊢
          exact q2
        · rw [if_neg e9] at q2 ⊢
          exact q2
      · cases hs
    · cases hs
  · cases hs
theorem zk_last (C : zCx p R s m args meth c0 D cl tys z X Ts own cc nL nm) {pc : Nat} (hd : decode cc pc = .ok (.lastore, 1)) : zOp p l e R s m args below meth c0 Q D cl tys o z X Ts prog ws0 nL cc ret (pc) (zo_ast (pc + 1) 1) := by
  intro call rt go c _ _ hgo hs fv hfv ls vst H locs ws S
  unfold zo_ast at hs
  split at hs
  · split at hs
    · rename_i hc
      split at hs
      · rename_i he
        simp only [Bool.and_eq_true] at he
        obtain ⟨he, hfit, x2, x3⟩ := he
        have he := Nat.eq_of_beq_eq_true he
        subst he
        split at hs
        rotate_left
        · cases hs
        rename_i r' hst
        replace hs := zfr_ok hs
        obtain ⟨u, t0, rfl, hu1, h2a⟩ := zr2_cons S.2.1
        obtain ⟨w, t1, rfl, hw1, h2b⟩ := zr2_cons h2a
        obtain ⟨v, t, rfl, ⟨a, ha, rfl⟩, h2⟩ := zr2_cons h2b
        obtain ⟨x, rfl, hx⟩ := zint hw1
        obtain ⟨y, rfl⟩ : ∃ y : Int64, u = .long y := by
          have h := zfit_ok (ty := .long) rfl hfit hu1
          cases u <;> first | exact ⟨_, rfl⟩ | (exact absurd h.2 (by decide)) | (simp [fits] at h)
        obtain ⟨e0, hw, cA, hA, f, rfl, hf⟩ := zwr_at S.2.2.1 ha hc
        obtain ⟨b1, b2, b4, b3⟩ := zixI hx.1 x2 x3
        obtain ⟨t0, ht0⟩ := List.getElem?_of_mem hA
        refine va_last C.1 C.2.1 C.2.2.2.2.2.1 S.2.2.2.1 S.2.2.2.2.1 S.2.2.2.2.2.1 _ t0 hw ht0 b1 hd (fun H1 locs1 hP hD hS => ?_)
        refine hgo _ _ hs fv hfv ls _ H1 locs1 _ (zSat_h S h2 (by rw [zad_set hw]; exact fun _ _ q => q) (zwr_set S.2.2.1 hw hc ⟨cA, hA, _, rfl, ?_⟩) hP hD hS (zcg_arr S.2.2.2.2.2.2 hw))
        have key := zstore_ok (g := fun i => Value.long (f i)) hst b2 b4 b3 hf (zgH_of hu1)
        intro i hi
        obtain ⟨b, q1, q2⟩ := key i hi
        refine ⟨b, q1, ?_⟩
        rw [vp_updL]
        by_cases e9 : i = x.toNatClampNeg
        · rw [if_pos e9] at q2 ⊢
          exact q2
        · rw [if_neg e9] at q2 ⊢
          exact q2
      · cases hs
    · cases hs
  · cases hs
theorem zk_zast (C : zCx p R s m args meth c0 D cl tys z X Ts own cc nL nm) {pc : Nat} (hd : decode cc pc = .ok (.bastore, 1)) : zOp p l e R s m args below meth c0 Q D cl tys o z X Ts prog ws0 nL cc ret (pc) (zo_ast (pc + 1) 2) := by
  intro call rt go c _ _ hgo hs fv hfv ls vst H locs ws S
  unfold zo_ast at hs
  split at hs
  · split at hs
    · rename_i hc
      split at hs
      · rename_i he
        simp only [Bool.and_eq_true] at he
        obtain ⟨he, hfit, x2, x3⟩ := he
        have he := Nat.eq_of_beq_eq_true he
        subst he
        split at hs
        rotate_left
        · cases hs
        rename_i r' hst
        replace hs := zfr_ok hs
        obtain ⟨u, t0, rfl, hu1, h2a⟩ := zr2_cons S.2.1
        obtain ⟨w, t1, rfl, hw1, h2b⟩ := zr2_cons h2a
        obtain ⟨v, t, rfl, ⟨a, ha, rfl⟩, h2⟩ := zr2_cons h2b
        obtain ⟨x, rfl, hx⟩ := zint hw1
        have hnf := zfit_ok (ty := .boolean) rfl hfit hu1
        obtain ⟨y, rfl⟩ : ∃ y : Int32, u = .int y := by
          cases u <;> first | exact ⟨_, rfl⟩ | (exact absurd hnf.2 (by decide)) | (simp [fits] at hnf)
        have hny : vp_nar .boolean y = y := by unfold vp_nar; rw [hnf.1]
        obtain ⟨e0, hw, cA, hA, f, rfl, hf⟩ := zwr_at S.2.2.1 ha hc
        obtain ⟨b1, b2, b4, b3⟩ := zixI hx.1 x2 x3
        obtain ⟨t0, ht0⟩ := List.getElem?_of_mem hA
        refine va_zast C.1 C.2.1 C.2.2.2.2.2.1 S.2.2.2.1 S.2.2.2.2.1 S.2.2.2.2.2.1 _ t0 hw ht0 b1 hd (fun H1 locs1 hP hD hS => ?_)
        rw [hny] at hP hD
        refine hgo _ _ hs fv hfv ls _ H1 locs1 _ (zSat_h S h2 (by rw [zad_set hw]; exact fun _ _ q => q) (zwr_set S.2.2.1 hw hc ⟨cA, hA, _, rfl, ?_⟩) hP hD hS (zcg_arr S.2.2.2.2.2.2 hw))
        have key := zstore_ok (g := fun i => Value.int (f i)) hst b2 b4 b3 hf (zgH_of hu1)
        intro i hi
        obtain ⟨b, q1, q2⟩ := key i hi
        refine ⟨b, q1, ?_⟩
        rw [upd]
        by_cases e9 : i = x.toNatClampNeg
        · rw [if_pos e9] at q2 ⊢
          exact q2
        · rw [if_neg e9] at q2 ⊢
          exact q2
      · cases hs
    · cases hs
  · cases hs
theorem zk_aald (C : zCx p R s m args meth c0 D cl tys z X Ts own cc nL nm) {pc : Nat} (hd : decode cc pc = .ok (.aaload, 1)) : zOp p l e R s m args below meth c0 Q D cl tys o z X Ts prog ws0 nL cc ret (pc) (zo_aald (pc + 1)) := by
  intro call rt go c _ _ hgo hs fv hfv ls vst H locs ws S
  unfold zo_aald at hs
  split at hs
  · split at hs
    · rename_i t' len r hc
      split at hs
      · rename_i he
        simp only [Bool.and_eq_true] at he
        obtain ⟨he, x1, x2, x3⟩ := he
        have he := Nat.le_of_ble_eq_true he
        obtain ⟨t3, rfl⟩ : ∃ t3, t' = t3 + 4 := ⟨t' - 4, by omega⟩
        split at hs
        · rename_i hr
          obtain ⟨w, t1, rfl, hw1, h2a⟩ := zr2_cons S.2.1
          obtain ⟨v, t, rfl, ⟨a, ha, rfl⟩, h2⟩ := zr2_cons h2a
          obtain ⟨x, rfl, hx⟩ := zint hw1
          obtain ⟨e0, hw, cA, hA, f, rfl, hf⟩ := zwr_at S.2.2.1 ha hc
          obtain ⟨b1, b2, b3⟩ := zix hx.1 x1 x2 x3
          obtain ⟨a1, g1, g2⟩ := hf _ b3
          rw [hr] at g1
          cases g1
          obtain ⟨t0, ht0⟩ := List.getElem?_of_mem hA
          refine va_aldq C.1 C.2.1 C.2.2.2.2.2.1 S.2.2.2.1 _ t0 hw ht0 b1 hd ?_
          rw [b2]
          exact hgo _ _ hs fv hfv ls _ H locs ws (zSat_st S ⟨zg_strip g2, h2⟩)
        · cases hs
      · cases hs
    · cases hs
  · cases hs
theorem zk_aast (C : zCx p R s m args meth c0 D cl tys z X Ts own cc nL nm) {pc : Nat} (hd : decode cc pc = .ok (.aastore, 1)) (hcl : ∀ k, k < cl.length → True) : zOp p l e R s m args below meth c0 Q D cl tys o z X Ts prog ws0 nL cc ret (pc) (zo_aast (pc + 1)) := by
  intro call rt go c _ _ hgo hs fv hfv ls vst H locs ws S
  unfold zo_aast at hs
  split at hs
  · split at hs
    · rename_i t' len r hc
      split at hs
      · rename_i ci fsv hv
        split at hs
        · rename_i he
          simp only [Bool.and_eq_true] at he
          obtain ⟨he, x2, x3⟩ := he
          have he := Nat.eq_of_beq_eq_true he
          subst he
          split at hs
          rotate_left
          · cases hs
          rename_i r' hst
          replace hs := zfr_ok hs
          obtain ⟨u, t0, rfl, ⟨va, hva, rfl⟩, h2a⟩ := zr2_cons S.2.1
          obtain ⟨w, t1, rfl, hw1, h2b⟩ := zr2_cons h2a
          obtain ⟨v, t, rfl, ⟨a, ha, rfl⟩, h2⟩ := zr2_cons h2b
          obtain ⟨x, rfl, hx⟩ := zint hw1
          obtain ⟨e0, hw, cA, hA, f, rfl, hf⟩ := zwr_at S.2.2.1 ha hc
          obtain ⟨e1, hw', vs, rfl, hvs⟩ := zwr_at S.2.2.1 hva hv
          obtain ⟨b1, b2, b4, b3⟩ := zixI hx.1 x2 x3
          obtain ⟨t0, ht0⟩ := List.getElem?_of_mem hA
          obtain ⟨rc, hrc, -⟩ := S.2.2.2.1 _ _ hw'
          have hrc : cl[ci]? = some rc := hrc
          have hty : zty cl (ci + 4) = .object rc.1 := by
            show FieldType.object (match cl[ci]? with | some q => q.1 | none => "") = _
            rw [hrc]
          have ht0 : tys[t0]? = some (cA, .object rc.1) := by rw [ht0]; show some (cA, zty cl (ci + 4)) = _; rw [hty]
          refine va_astq C.1 C.2.1 C.2.2.2.2.2.1 S.2.2.2.1 S.2.2.2.2.1 S.2.2.2.2.2.1 _ t0 _ ci hw ht0 hw' hrc b1 hd (fun H1 locs1 hP hD hS => ?_)
          refine hgo _ _ hs fv hfv ls _ H1 locs1 _ (zSat_h S h2 (by rw [zad_set hw]; exact fun _ _ q => q) (zwr_set S.2.2.1 hw hc ⟨cA, hA, _, rfl, ?_⟩) hP hD hS (zcg_arr S.2.2.2.2.2.2 hw))
          have key := zstore_ok (g := fun i => va_rf (f i)) (v := .ref va) hst b2 b4 b3 hf ⟨va, hva, rfl⟩
          intro i hi
          obtain ⟨b, q1, q2⟩ := key i hi
          refine ⟨b, q1, ?_⟩
          rw [va_up]
          by_cases e9 : i = x.toNatClampNeg
          · rw [if_pos e9] at q2 ⊢
            exact q2
          · rw [if_neg e9] at q2 ⊢
            exact q2
        · cases hs
      · cases hs
    · cases hs
  · cases hs
theorem zae_len {t n : Nat} {r : zR zAV} {cA : ClassId} {e : va_E} {ad : Nat → Option Nat} (h : zae o ad t n r cA e) : ∃ x : vp_A, e = .inl (cA, x) ∧ x.1 = n := by
  match t, h with
  | 0, ⟨f, h1, _⟩ => exact ⟨_, h1, rfl⟩
  | 1, ⟨f, h1, _⟩ => exact ⟨_, h1, rfl⟩
  | 2, ⟨f, h1, _⟩ => exact ⟨_, h1, rfl⟩
  | 3, ⟨f, h1, _⟩ => exact ⟨_, h1, rfl⟩
  | _ + 4, ⟨f, h1, _⟩ => exact ⟨_, h1, rfl⟩
theorem zk_len (C : zCx p R s m args meth c0 D cl tys z X Ts own cc nL nm) {pc : Nat} (hd : decode cc pc = .ok (.arraylength, 1)) : zOp p l e R s m args below meth c0 Q D cl tys o z X Ts prog ws0 nL cc ret (pc) (zo_len (pc + 1)) := by
  intro call rt go c _ _ hgo hs fv hfv ls vst H locs ws S
  unfold zo_len at hs
  split at hs
  · split at hs
    · rename_i t' len r hc
      split at hs
      · rename_i hl
        have hl : len < 2147483648 := Nat.le_of_ble_eq_true hl
        obtain ⟨v, t, rfl, ⟨a, ha, rfl⟩, h2⟩ := zr2_cons S.2.1
        obtain ⟨e0, hw, cA, hA, hz⟩ := zwr_at S.2.2.1 ha hc
        obtain ⟨x, rfl, hx⟩ := zae_len hz
        obtain ⟨t0, ht0⟩ := List.getElem?_of_mem hA
        refine va_alen C.1 C.2.1 C.2.2.2.2.2.1 S.2.2.2.1 _ t0 hw ht0 rfl hd ?_
        refine hgo _ _ hs fv hfv ls _ H locs ws (zSat_st S ⟨⟨_, rfl, ?_, trivial⟩, h2⟩)
        have e : (Int32.ofNat x.1).toInt = (x.1 : Int) := nI_toInt (by rw [hx]; omega)
        unfold zmem
        rw [e, hx]
        exact ⟨Int.le_refl _, Int.le_refl _⟩
      · cases hs
    · cases hs
  · cases hs
theorem zk_new (C : zCx p R s m args meth c0 D cl tys z X Ts own cc nL nm) {pc ci N index bc bs : Nat} {Cn : String} {T : u_T} {fs : List zAV} {vs : List Value} (hbc : R.cells = bc) (hbs : R.slots = bs) (hd : decode cc pc = .ok (.new index, 3)) (hcl : cl[ci]? = some (Cn, T, N)) (hin : ∀ w ∈ u_ws Cn T N, w ∈ Ts) (ty : Nat → FieldType) (hty : ∀ k, k < N → parseFieldDescriptor (T k).2.2.1 = some (ty k)) (hl : Cond.classLink own index Cn ∈ Ts) (hi : Cond.instantiable Cn N ∈ Ts) (hz : Cond.initialized Cn ∈ Ts) (hfs : ∀ j, j < N → defaultValue (ty j) = vp_V vs j) (hrel : ∀ ad, zr2 (zgH o ad) fs vs) : zOp p l e R s m args below meth c0 Q D cl tys o z X Ts prog ws0 nL cc ret (pc) (zo_new (pc + 3) ci N bc bs fs) := by
  intro call rt go c _ _ hgo hs fv hfv ls vst H locs ws S
  unfold zo_new at hs
  split at hs
  rename_i al st h cs sl
  split at hs
  · rename_i d hc
    split at hs
    · rename_i hcnt
      replace hs := zfr_ok hs
      rw [Bool.and_eq_true] at hcnt
      have c1 : cs < bc := Nat.le_of_ble_eq_true hcnt.1
      have c2 := Nat.le_of_ble_eq_true hcnt.2
      refine va_new C.1 C.2.1 C.2.2.2.2.1 hin ty hty C.2.2.2.1 (C.2.2.2.2.1 _ hl) (C.2.2.2.2.1 _ hi) (C.2.2.2.2.1 _ hz) C.2.2.2.2.2.1 S.2.2.2.1 S.2.2.2.2.1 S.2.2.2.2.2.1 (fun q hq => Nat.le_trans C.2.2.2.2.2.2.2.2.1 hq) hcl hfs (by rw [hbc]; exact c1) (by rw [hbs]; exact c2) hd (fun q H1 hP hD hS => ?_)
      refine hgo _ _ hs fv hfv ls _ H1 locs _ (zSat_hp S S.2.1 ⟨q, zad_push S.2.2.1.1, rfl⟩ zsub_push (zwr_push S.2.2.1 hc (c' := .inr (ci, fs)) ⟨vs, rfl, hrel _⟩) hP hD hS (zcg_push S.2.2.2.2.2.2))
    · cases hs
  · cases hs
theorem zk_newa (C : zCx p R s m args meth c0 D cl tys z X Ts own cc nL nm) {pc t bc bs : Nat} {atype : ArrayType} {ty : FieldType} {d : zAV} (hbc : R.cells = bc) (hbs : R.slots = bs) (hd : decode cc pc = .ok (.newarray atype, 2)) (hw : Cond.arrayClass (newarray.typeOf atype) ∈ Ts) (hty : newarray.typeOf atype = ty) (ht : zty cl t = ty) (hbytes : componentBytes ty ≤ 8) (hm : ∃ cA, (cA, ty) ∈ tys) (hRA : ∀ cA, va_RA s cA ty → s.vm.findClass ("[" ++ ty.toString) = some cA) (mk : ∀ (n : Nat), ∃ a0 : vp_A, (∀ cA : ClassId, vp_cell cA a0 = arrV cA n (fun _ => defaultValue ty)) ∧ ∀ ad cA, zae o ad t n (zrmk n d) cA (.inl (cA, a0))) : zOp p l e R s m args below meth c0 Q D cl tys o z X Ts prog ws0 nL cc ret (pc) (zo_newa (pc + 2) t bc bs d) := by
  intro call rt go c _ _ hgo hs fv hfv ls vst H locs ws S
  unfold zo_newa at hs
  split at hs
  · rename_i al i st h cs sl
    split at hs
    · rename_i d0 hc
      split at hs
      · rename_i hcnt
        simp only [Bool.and_eq_true, zle_iff] at hcnt
        obtain ⟨x1, x2, x3, x4, x5⟩ := hcnt
        replace hs := zfr_ok hs
        have x3 := Nat.le_of_ble_eq_true x3
        have x4 : cs < bc := Nat.le_of_ble_eq_true x4
        have x5 := Nat.le_of_ble_eq_true x5
        obtain ⟨v, t1, rfl, h1, h2⟩ := zr2_cons S.2.1
        obtain ⟨x, rfl, ⟨hx1, hx2⟩, -⟩ := h1
        have ex : x.toInt = i.1.1 := by omega
        obtain ⟨a0, m1, m2⟩ := mk i.1.1.toNat
        have hn : ¬ x < 0 := by rw [Int32.lt_iff_toInt_lt, Int32.toInt_zero]; omega
        have hN : x.toNatClampNeg = i.1.1.toNat := by show x.toInt.toNat = _; rw [ex]
        refine va_newa C.1 C.2.1 (C.2.2.2.2.1 _ hw) hty C.2.2.2.2.2.1 S.2.2.2.1 S.2.2.2.2.1 S.2.2.2.2.2.1 (fun q hq => Nat.le_trans C.2.2.2.2.2.2.2.2.1 hq) m1 hn hN (Nat.le_trans (Nat.mul_le_mul x3 hbytes) (by decide)) (by rw [hbc]; exact x4) (by rw [hbs]; exact x5) hd (fun q cA H1 hK hP hD hS => ?_)
        have hmem : (cA, zty cl t) ∈ tys := by
          obtain ⟨cB, hB⟩ := hm
          obtain ⟨k0, hk0⟩ := List.getElem?_of_mem hB
          have e1 := hRA cB (C.2.2.2.2.2.1.2 k0 _ hk0).2
          have e2 := hRA cA (hK.2 tys.length (cA, ty) (by rw [List.getElem?_append_right (Nat.le_refl _), Nat.sub_self]; rfl)).2
          rw [e1] at e2
          cases e2
          rw [ht]
          exact hB
        refine hgo _ _ hs fv hfv ls _ H1 locs _ (zSat_hp S h2 ⟨q, zad_push S.2.2.1.1, rfl⟩ zsub_push (zwr_push S.2.2.1 hc (c' := .inl (t, i.1.1.toNat, zrmk i.1.1.toNat d)) ⟨cA, hmem, m2 _ cA⟩) hP hD hS (zcg_push S.2.2.2.2.2.2))
      · cases hs
    · cases hs
  · cases hs
theorem zk_newq (C : zCx p R s m args meth c0 D cl tys z X Ts own cc nL nm) {pc ci index bc bs : Nat} {Cn : String} (hbc : R.cells = bc) (hbs : R.slots = bs) (hd : decode cc pc = .ok (.anewarray index, 3)) (hl : Cond.classLink own index Cn ∈ Ts) (hX : ∀ U H, X U H → va_AO Cn U) (hcn : zty cl (ci + 4) = .object Cn) (hm : ∃ cA, (cA, FieldType.object Cn) ∈ tys) : zOp p l e R s m args below meth c0 Q D cl tys o z X Ts prog ws0 nL cc ret (pc) (zo_newa (pc + 3) (ci + 4) bc bs (.inr (.inr (.inr (.inl false))))) := by
  intro call rt go c _ _ hgo hs fv hfv ls vst H locs ws S
  unfold zo_newa at hs
  split at hs
  · rename_i al i st h cs sl
    split at hs
    · rename_i d0 hc
      split at hs
      · rename_i hcnt
        simp only [Bool.and_eq_true, zle_iff] at hcnt
        obtain ⟨x1, x2, x3, x4, x5⟩ := hcnt
        replace hs := zfr_ok hs
        have x3 := Nat.le_of_ble_eq_true x3
        have x4 : cs < bc := Nat.le_of_ble_eq_true x4
        have x5 := Nat.le_of_ble_eq_true x5
        obtain ⟨v, t1, rfl, h1, h2⟩ := zr2_cons S.2.1
        obtain ⟨x, rfl, ⟨hx1, hx2⟩, -⟩ := h1
        have ex : x.toInt = i.1.1 := by omega
        have hn : ¬ x < 0 := by rw [Int32.lt_iff_toInt_lt, Int32.toInt_zero]; omega
        have hN : x.toNatClampNeg = i.1.1.toNat := by show x.toInt.toNat = _; rw [ex]
        refine va_newq C.1 C.2.1 C.2.2.2.1 (C.2.2.2.2.1 _ hl) (hX _ _ C.2.2.2.2.2.2.2.1) C.2.2.2.2.2.1 S.2.2.2.1 S.2.2.2.2.1 S.2.2.2.2.2.1 (fun q hq => Nat.le_trans C.2.2.2.2.2.2.2.2.1 hq) hn hN (by omega) (by rw [hbc]; exact x4) (by rw [hbs]; exact x5) hd (fun q cA H1 hK hP hD hS => ?_)
        have hmem : (cA, zty cl (ci + 4)) ∈ tys := by
          obtain ⟨cB, hB⟩ := hm
          obtain ⟨k0, hk0⟩ := List.getElem?_of_mem hB
          obtain ⟨kA, comp, -, -, -, e1⟩ := (C.2.2.2.2.2.1.2 k0 _ hk0).2
          obtain ⟨kA2, comp2, -, -, -, e2⟩ := (hK.2 tys.length (cA, .object Cn) (by rw [List.getElem?_append_right (Nat.le_refl _), Nat.sub_self]; rfl)).2
          rw [e1] at e2
          cases e2
          rw [hcn]
          exact hB
        refine hgo _ _ hs fv hfv ls _ H1 locs _ (zSat_hp S h2 ⟨q, zad_push S.2.2.1.1, rfl⟩ zsub_push (zwr_push S.2.2.1 hc (c' := .inl (ci + 4, i.1.1.toNat, zrmk i.1.1.toNat (.inr (.inr (.inr (.inl false)))))) ⟨cA, hmem, fun _ => none, rfl, fun j hj => ⟨_, zamk_get hj, ?_⟩⟩) hP hD hS (zcg_push S.2.2.2.2.2.2))
        simp [zgH, va_rf]
      · cases hs
    · cases hs
  · cases hs
end ZHEAP
