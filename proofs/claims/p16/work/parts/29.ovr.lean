/-! OTHER WALKS OF SOME INSTRUCTIONS: splits by what a slot holds, closer bounds; the program with them -/
noncomputable def zo_splG (l0 : Nat) (path : List Nat) (j : Nat) (bxf : zK → List zI) (sem : zSem) : zSem := fun call rt go c => zo_splH l0 path j (bxf c) sem call rt go c
/-- what lies on top of the stack, by boxes -/
noncomputable def zo_splT (bx : List zI) (sem : zSem) : zSem := fun call rt go c => match c with
  | (al, .inl q :: st, h) => (match zcovr q.1.2 bx q.1.1 with
    | true => zboxes (fun b => sem call rt go (al, .inl (b, q.2) :: st, h)) q.1 bx
    | false => false)
  | _ => false
/-- a cut where another slot is, and so much more -/
noncomputable def zbxF (l0 : Nat) (path : List Nat) (j : Nat) (d : Int) : zK → List zI := fun c => match zlook c.1 l0 with
  | some (.inr (.inr (.inl q0))) => (match zpath c.2.2.1 path q0 with
    | some k => (match zrget c.2.2.1.2.1 k with
      | some (.inr (_, fs)) => (match zget fs j with
        | some (.inl q) => [(.negSucc 2147483647, q.1.1 + d - 1), (q.1.1 + d, .ofNat 2147483647)]
        | _ => [])
      | _ => [])
    | none => [])
  | _ => []
def zt_and2 (a b : zN) : zT := match zle 0 a.1.1, a.2 with
  | true, some q => if zle 0 (zj_and a.1 b.1).1 && (Nat.ble (q.1 + 1) 1000 && zin 2147483648 (a.1.1 - q.2) (a.1.2 - q.2)) then some (q.1 + 1000, q.2) else none
  | _, _ => none
theorem zt_and2_ok {f : Nat → Int32} {a b : zN} {x y : Int32} (hx : zmi a.1 x) (tx : ztg f a.2 x) : ztg f (zt_and2 a b) (x &&& y) := by
  have x1 : a.1.1 ≤ x.toInt := hx.1
  have x2 : x.toInt ≤ a.1.2 := hx.2
  unfold zt_and2
  split
  · rename_i q h0 hq
    rw [zle_iff] at h0
    split
    · rename_i hc
      rw [Bool.and_eq_true, Bool.and_eq_true, zin_iff] at hc
      have hq1 := Nat.le_of_ble_eq_true hc.2.1
      have b1 := hc.2.2.1
      have b3 := hc.2.2.2.2
      clear hc
      rw [hq] at tx
      have tx := (ztg_eq (by omega)).mp tx
      have h := zand_r (x := y) (y := x) (by omega)
      rw [Int32.and_comm] at h
      have e : f q.1 = x - Int32.ofInt q.2 := by rw [tx]; exact (Int32.add_sub_cancel _ _).symm
      have ei : (f q.1).toInt = x.toInt - q.2 := by
        rw [e, Int32.toInt_sub, Int32.toInt_ofInt, Int.sub_bmod_bmod]
        exact zbm (B := 2147483648) (by decide) (by omega) (by omega)
      generalize hm : q.1 + 1000 = m
      refine ztg_le (by omega) ?_
      rw [show m - 1000 = q.1 by omega, ei]
      have h2 := h.2
      omega
    · trivial
  · trivial
def zo_and2 (nx : Nat) : zSem := fun _ _ go c => match c with
  | (al, .inl b :: .inl a :: st, h) => zfi (zj_and a.1 b.1) (go nx (al, .inl (zj_and a.1 b.1, zt_and2 a b) :: st, h))
  | _ => false
/-- a number whose low bits are 0, and bits below -/
def zj_or2 (a b : zI) : zI := if zle a.2 a.1 && (zle 0 a.1 && (zle 0 b.1 && (zle (a.1 + b.2) 2147483647 && Nat.beq (a.1.toNat % 2 ^ zb2 b.2.toNat) 0))) then (a.1 + b.1, a.1 + b.2) else zj_or a b
theorem zj_or2_ok {a b : zI} {x y : Int32} (hx : zmi a x) (hy : zmi b y) : zmi (zj_or2 a b) (x ||| y) := by
  unfold zj_or2
  split
  · rename_i c
    simp only [Bool.and_eq_true, zle_iff] at c
    obtain ⟨c1, c2, c3, c4, c5⟩ := c
    have c5 := Nat.eq_of_beq_eq_true c5
    obtain ⟨h1, h2⟩ := hx
    obtain ⟨h3, h4⟩ := hy
    obtain ⟨e1, l1⟩ := zbits (x := x) (by omega)
    obtain ⟨e2, l2⟩ := zbits (x := y) (by omega)
    have hb : b.2.toNat < 2 ^ zb2 b.2.toNat := Nat.lt_log2_self
    have hn : (x ||| y).toBitVec.toNat = x.toBitVec.toNat ||| y.toBitVec.toNat := by rw [Int32.toBitVec_or, BitVec.toNat_or]
    have ex : x.toBitVec.toNat = a.1.toNat := by omega
    have hd : x.toBitVec.toNat = 2 ^ zb2 b.2.toNat * (x.toBitVec.toNat / 2 ^ zb2 b.2.toNat) := by
      rw [ex]
      have := Nat.div_add_mod a.1.toNat (2 ^ zb2 b.2.toNat)
      omega
    have hs := Nat.two_pow_add_eq_or_of_lt (i := zb2 b.2.toNat) (b := y.toBitVec.toNat) (by omega) (x.toBitVec.toNat / 2 ^ zb2 b.2.toNat)
    rw [← hd] at hs
    rw [← hs] at hn
    have := zbits' (x := x ||| y) (by omega)
    refine ⟨?_, ?_⟩
    · show a.1 + b.1 ≤ _
      omega
    · show _ ≤ a.1 + b.2
      omega
  · exact zj_or_ok hx hy
noncomputable def zsetc (c : Option zCode) (mr : zM) : zM := match c with
  | some code => (mr.1, mr.2.1, mr.2.2.1, mr.2.2.2.1, mr.2.2.2.2.1, mr.2.2.2.2.2.1, code)
  | none => mr
noncomputable def zovr (f : Nat → Option zCode) (l : List zM) : Nat → List zM := List.rec (motive := fun _ => Nat → List zM) (fun _ => []) (fun mr _ ih i => zsetc (f i) mr :: ih (i + 1)) l
theorem zovr_get {f : Nat → Option zCode} : ∀ {l : List zM} {i k : Nat}, (zovr f l i)[k]? = (match l[k]? with
  | some mr => some (zsetc (f (i + k)) mr)
  | none => none)
  | [], i, k => by show ([] : List zM)[k]? = _; simp
  | mr :: l, i, 0 => rfl
  | mr :: l, i, k + 1 => by
    show (zovr f l (i + 1))[k]? = _
    rw [zovr_get, show i + 1 + k = i + (k + 1) by omega]
    rfl
section ZOVR
variable {p : Program} {l : Launch} {e : Env} {R : Room} {s : State} {m : MethodId} {args : Array Value} {below : List Frame} {meth : Method} {c0 : Code} {Q : State → Prop} {D : va_G} {cl : List vw_C} {tys : List (ClassId × FieldType)} {o : zO} {z : Nat} {X : State → Heap → Prop} {Ts : List Cond} {prog : List zM} {ws0 : va_W} {nL : Nat} {own : String} {cc : ByteArray} {ret : Option FieldType} {nm : String}
theorem zk_splG {pc l0 j : Nat} {path : List Nat} {bxf : zK → List zI} {sem : zSem} (h0 : zOp p l e R s m args below meth c0 Q D cl tys o z X Ts prog ws0 nL cc ret (pc) (sem)) : zOp p l e R s m args below meth c0 Q D cl tys o z X Ts prog ws0 nL cc ret (pc) (zo_splG l0 path j bxf sem) := fun call rt go c hcall hrt hgo hs => zk_splH (bx := bxf c) h0 call rt go c hcall hrt hgo hs
theorem zk_splT {pc : Nat} {bx : List zI} {sem : zSem} (h0 : zOp p l e R s m args below meth c0 Q D cl tys o z X Ts prog ws0 nL cc ret (pc) (sem)) : zOp p l e R s m args below meth c0 Q D cl tys o z X Ts prog ws0 nL cc ret (pc) (zo_splT bx sem) := by
  intro call rt go c hcall hrt hgo hs fv hfv ls vst H locs ws S
  unfold zo_splT at hs
  split at hs
  · rename_i al q st h
    split at hs
    · rename_i hcv
      obtain ⟨v, t, rfl, h1, h2⟩ := zr2_cons S.2.1
      obtain ⟨x, rfl, hx, tx⟩ := zint h1
      obtain ⟨b, hb, hm⟩ := zcovr_ok hcv hx.1 hx.2
      have hr := zboxes_ok hx hs b hb hm
      exact h0 call rt go _ hcall hrt hgo hr fv hfv ls _ H locs ws (zSat_st S ⟨⟨x, rfl, ⟨zmx_e hx.1 hm.1, zmn_e hx.2 hm.2⟩, tx⟩, h2⟩)
    · cases hs
  · cases hs
theorem zqb_and2 (C : zCx p R s m args meth c0 D cl tys z X Ts own cc nL nm) {pc : Nat} (hd : decode cc pc = .ok (.iand, 1)) : zOp p l e R s m args below meth c0 Q D cl tys o z X Ts prog ws0 nL cc ret (pc) (zo_and2 (pc + 1)) := by
  intro call rt go c _ _ hgo hs fv hfv ls vst H locs ws S
  unfold zo_and2 at hs
  split at hs
  · replace hs := zfi_ok hs
    obtain ⟨v, t, rfl, h1, h2⟩ := zr2_cons S.2.1
    obtain ⟨v2, t2, rfl, h3, h4⟩ := zr2_cons h2
    obtain ⟨y, rfl, hy, -⟩ := zint h1
    obtain ⟨x, rfl, hx, tx⟩ := zint h3
    exact lv_iand C.1 C.2.1 hd (hgo _ _ hs fv hfv ls _ H locs ws (zSat_st S ⟨⟨_, rfl, zj_and_ok hx hy, zt_and2_ok hx tx⟩, h4⟩))
  · cases hs
theorem zqb_or2 (C : zCx p R s m args meth c0 D cl tys z X Ts own cc nL nm) {pc : Nat} (hd : decode cc pc = .ok (.ior, 1)) : zOp p l e R s m args below meth c0 Q D cl tys o z X Ts prog ws0 nL cc ret (pc) (zo_i2 (pc + 1) zj_or2) := zk_i2 C zj_or2_ok (fun _ _ _ _ _ _ _ _ k => lv_ior C.1 C.2.1 hd k)
end ZOVR
section ZOVS
variable {l : Launch} {D : va_G} {cl : List vw_C} {tys : List (ClassId × FieldType)} {o : zO} {z : Nat} {X : State → Heap → Prop} {Ts : List Cond} {prog : List zM}
theorem zCode_set {mr : zM} (h : zCodeOk l D cl tys o z X Ts prog mr) {pc : Nat} {sem : zSem} (sem' : zSem) (hg : zrget mr.2.2.2.2.2.2 pc = some (some sem)) (hs : ∀ (p : Program) (e : Env) (R : Room) (s : State) (m : MethodId) (args : Array Value) (below : List Frame) (meth : Method) (c0 : Code) (Q : State → Prop) (ws0 : va_W), zCx p R s m args meth c0 D cl tys z X Ts mr.1.cls mr.2.1 mr.2.2.1 mr.1.name → zOp p l e R s m args below meth c0 Q D cl tys o z X Ts prog ws0 mr.2.2.1 mr.2.1 mr.2.2.2.1 pc sem → zOp p l e R s m args below meth c0 Q D cl tys o z X Ts prog ws0 mr.2.2.1 mr.2.1 mr.2.2.2.1 pc sem') : zCodeOk l D cl tys o z X Ts prog (zsetc (some (zrset mr.2.2.2.2.2.2 pc (some sem'))) mr) := by
  intro p e R s m args below meth c0 Q ws0 hbc hbs C pc' sem9 hp
  have hp : zrget (zrset mr.2.2.2.2.2.2 pc (some sem')) pc' = some (some sem9) := hp
  rw [zrget_set hg] at hp
  by_cases e9 : pc' = pc
  · subst e9
    rw [if_pos rfl] at hp
    cases hp
    exact hs p e R s m args below meth c0 Q ws0 C (h p e R s m args below meth c0 Q ws0 hbc hbs C pc' sem hg)
  · rw [if_neg e9] at hp
    exact h p e R s m args below meth c0 Q ws0 hbc hbs C pc' sem9 hp
/-- what a program's calls rest on is its methods' heads alone -/
theorem zOp_hd {f : Nat → Option zCode} {p : Program} {e : Env} {R : Room} {s : State} {m : MethodId} {args : Array Value} {below : List Frame} {meth : Method} {c0 : Code} {Q : State → Prop} {ws0 : va_W} {nL : Nat} {cc : ByteArray} {ret : Option FieldType} {pc : Nat} {sem : zSem} (h : zOp p l e R s m args below meth c0 Q D cl tys o z X Ts prog ws0 nL cc ret pc sem) : zOp p l e R s m args below meth c0 Q D cl tys o z X Ts (zovr f prog 0) ws0 nL cc ret pc sem := by
  intro call rt go c hcall
  refine h call rt go c ?_
  intro mi mr av h' k hm hc
  have hm2 : zget (zovr f prog 0) mi = some (zsetc (f mi) mr) := by
    rw [zget_eq] at hm ⊢
    rw [zovr_get, hm, Nat.zero_add]
  obtain ⟨fr, lo, g1, g2, g3⟩ := hcall mi _ av h' k hm2 hc
  refine ⟨fr, lo, g1, ?_, ?_⟩
  · cases h9 : f mi with
    | none => rw [h9] at g2; exact g2
    | some c9 => rw [h9] at g2; exact g2
  · cases h9 : f mi with
    | none => rw [h9] at g3; exact g3
    | some c9 => rw [h9] at g3; exact g3
theorem zCode_hd {f : Nat → Option zCode} {mr : zM} (h : zCodeOk l D cl tys o z X Ts prog mr) : zCodeOk l D cl tys o z X Ts (zovr f prog 0) mr := fun p e R s m args below meth c0 Q ws0 hbc hbs C pc sem hp => zOp_hd (h p e R s m args below meth c0 Q ws0 hbc hbs C pc sem hp)
end ZOVS
