/-! THE LAW'S LOOP: any script, if a body's walk holds for any argument -/
def zcov : Int → List zI → Bool
  | lo, [] => zle 2147483648 lo
  | lo, q :: t => zle q.1 lo && zcov (q.2 + 1) t
theorem zcov_ok : ∀ {l : List zI} {lo : Int} {x : Int32}, zcov lo l = true → lo ≤ x.toInt → ∃ q ∈ l, zmi q x
  | [], lo, x, h, hx => by
    have h : zle 2147483648 lo = true := h
    rw [zle_iff] at h
    have := (z32 x).2
    omega
  | q :: t, lo, x, h, hx => by
    have h : (zle q.1 lo && zcov (q.2 + 1) t) = true := h
    rw [Bool.and_eq_true, zle_iff] at h
    by_cases hq : x.toInt ≤ q.2
    · exact ⟨q, List.mem_cons_self, by have := h.1; omega, hq⟩
    · obtain ⟨q', h1, h2⟩ := zcov_ok (x := x) h.2 (by omega)
      exact ⟨q', List.mem_cons_of_mem _ h1, h2⟩
/-- a case's number -/
def zcov64 : Int → List zI → Bool
  | lo, [] => zle 64 lo
  | lo, q :: t => zle q.1 lo && zcov64 (q.2 + 1) t
theorem zcov64_ok : ∀ {l : List zI} {lo : Int} {x : Int32}, zcov64 lo l = true → lo ≤ x.toInt ∧ x.toInt ≤ 63 → ∃ q ∈ l, zmi q x
  | [], lo, x, h, hx => by
    have h : zle 64 lo = true := h
    rw [zle_iff] at h
    omega
  | q :: t, lo, x, h, hx => by
    have h : (zle q.1 lo && zcov64 (q.2 + 1) t) = true := h
    rw [Bool.and_eq_true, zle_iff] at h
    by_cases hq : x.toInt ≤ q.2
    · exact ⟨q, List.mem_cons_self, by have := h.1; omega, hq⟩
    · obtain ⟨q', h1, h2⟩ := zcov64_ok (x := x) h.2 ⟨by omega, hx.2⟩
      exact ⟨q', List.mem_cons_of_mem _ h1, h2⟩
theorem zand63 (x : Int32) : 0 ≤ (x &&& 63).toInt ∧ (x &&& 63).toInt ≤ 63 := zand_r (x := x) (y := 63) (by decide)
def zmall : Nat := Nat.sub (Nat.shiftLeft 1 8192) 1
noncomputable def zcL (mk : Nat) (top : Int) (hI : zH) (cs sl : Nat) : zK := ([(4, .inl ((.ofNat 0, top), some (4, .ofNat 0))), (0, .inr (.inr (.inr (.inl true)))), (1, .inr (.inr (.inl 0))), (2, .inr (.inr (.inl 94))), (3, .inr (.inr (.inl 125)))], [], (hI.1, hI.2.1, mk), cs, sl)
noncomputable def zcL9 (mk : Nat) (hI : zH) (jq : zI) : zK := ((zcL mk (.ofNat 2555) hI 0 0).1, [.inl (jq, none)], (hI.1, hI.2.1, mk), 0, 0)
/-- both are one number -/
noncomputable def zrelE (c : zK) (q : Nat × Nat × Nat × Nat) : Bool := match Nat.ble (q.1 + 1) c.2.2.1.1 && Nat.ble (q.2.2.1 + 1) c.2.2.1.1 with
  | true => (match zslot c q.1 q.2.1 with
    | some (.inl a) => (match zslot c q.2.2.1 q.2.2.2 with
      | some (.inl b) => zle a.1.2 a.1.1 && (zle a.1.1 b.1.1 && zle b.1.2 a.1.1)
      | _ => false)
    | _ => false)
  | false => false
theorem zkeptR {d : Nat} {ws ws' : va_W} (h : zcg d ws ws') {k j a ci : Nat} {vs : List Value} (he : ws[k]? = some (a, .inr (ci, vs))) (hb : zbit d k j = false) : ∃ vs', ws'[k]? = some (a, .inr (ci, vs')) ∧ vs'[j]? = vs[j]? := by
  obtain ⟨e', h1, h2⟩ := h k a _ he
  obtain ⟨vs', rfl, -, h3⟩ := h2
  exact ⟨vs', h1, h3 j hb⟩
section ZREL
variable {D : va_G} {cl : List vw_C} {tys : List (ClassId × FieldType)} {o : zO} {z : Nat} {nL : Nat} {H0 : Heap}
theorem zslot_ok {ws0 : va_W} {c : zK} {ls : Array Slot} {vst : List Value} {H : Heap} {locs : List Loc} {ws : va_W} (S : zSat D cl tys o z ws0 nL H0 c ls vst H locs ws) {k j : Nat} {a : zN} (hk : k + 1 ≤ c.2.2.1.1) (h : zslot c k j = some (.inl a)) : ∃ (a1 c1 : Nat) (v1 : List Value) (x : Int32), ws[k]? = some (a1, .inr (c1, v1)) ∧ v1[j]? = some (.int x) ∧ zmi a.1 x := by
  unfold zslot at h
  split at h
  · rename_i ci fs hc
    rw [zget_eq] at h
    obtain ⟨c9, a9, e9, g1, g2, g3⟩ := S.2.2.1.2 k hk
    rw [hc] at g1
    cases g1
    obtain ⟨vs, rfl, hvs⟩ := g3
    obtain ⟨v, h1, h2⟩ := zr2_get j hvs h
    obtain ⟨x, rfl, hx⟩ := h2
    exact ⟨a9, ci, vs, x, g2, h1, hx⟩
  · cases h
theorem zrelE_ok {ws0 : va_W} {c : zK} {ls : Array Slot} {vst : List Value} {H : Heap} {locs : List Loc} {ws : va_W} (S : zSat D cl tys o z ws0 nL H0 c ls vst H locs ws) {q : Nat × Nat × Nat × Nat} (h : zrelE c q = true) : ∃ (a1 c1 a2 c2 : Nat) (v1 v2 : List Value) (x : Int32), ws[q.1]? = some (a1, .inr (c1, v1)) ∧ ws[q.2.2.1]? = some (a2, .inr (c2, v2)) ∧ v1[q.2.1]? = some (.int x) ∧ v2[q.2.2.2]? = some (.int x) := by
  unfold zrelE at h
  split at h
  · rename_i hk
    rw [Bool.and_eq_true] at hk
    split at h
    · rename_i a ha
      split at h
      · rename_i b hb
        simp only [Bool.and_eq_true, zle_iff] at h
        obtain ⟨a1, c1, v1, x, g1, g2, g3, g4⟩ := zslot_ok S (Nat.le_of_ble_eq_true hk.1) ha
        obtain ⟨a2, c2, v2, y, g5, g6, g7, g8⟩ := zslot_ok S (Nat.le_of_ble_eq_true hk.2) hb
        have e : y = x := by
          apply Int32.toInt_inj.mp
          omega
        subst e
        exact ⟨a1, c1, a2, c2, v1, v2, y, g1, g5, g2, g6⟩
      · cases h
    · cases h
  · cases h
theorem zrel_cg {d : Nat} {ws ws' : va_W} (hc : zcg d ws ws') {q : Nat × Nat × Nat × Nat} (hb : (zbit d q.1 q.2.1 || zbit d q.2.2.1 q.2.2.2) = false) (h : ∃ (a1 c1 a2 c2 : Nat) (v1 v2 : List Value) (x : Int32), ws[q.1]? = some (a1, .inr (c1, v1)) ∧ ws[q.2.2.1]? = some (a2, .inr (c2, v2)) ∧ v1[q.2.1]? = some (.int x) ∧ v2[q.2.2.2]? = some (.int x)) : ∃ (a1 c1 a2 c2 : Nat) (v1 v2 : List Value) (x : Int32), ws'[q.1]? = some (a1, .inr (c1, v1)) ∧ ws'[q.2.2.1]? = some (a2, .inr (c2, v2)) ∧ v1[q.2.1]? = some (.int x) ∧ v2[q.2.2.2]? = some (.int x) := by
  obtain ⟨a1, c1, a2, c2, v1, v2, x, h1, h2, h3, h4⟩ := h
  rw [Bool.or_eq_false_iff] at hb
  obtain ⟨v1', g1, g2⟩ := zkeptR hc h1 hb.1
  obtain ⟨v2', g3, g4⟩ := zkeptR hc h2 hb.2
  exact ⟨a1, c1, a2, c2, v1', v2', x, g1, g3, g2.trans h3, g4.trans h4⟩
end ZREL
/-- what is kept: does a mask touch it; a check that makes it anew; what it says -/
abbrev zJ : Type := (Nat → Bool) × (zK → Bool) × (va_W → Prop)
def zJok (D : va_G) (tys : List (ClassId × FieldType)) (z : Nat) (q : zJ) : Prop := (∀ (d : Nat) (ws ws' : va_W), q.1 d = false → zcg d ws ws' → q.2.2 ws → q.2.2 ws') ∧ (∀ (o : zO) (ws0 : va_W) (H0 : Heap) (c : zK) (ls : Array Slot) (vst : List Value) (H : Heap) (locs : List Loc) (ws : va_W), zSat D vwCl tys o z ws0 8 H0 c ls vst H locs ws → q.2.1 c = true → q.2.2 ws)
noncomputable def zjC (c : zK) (q : zJ) : Bool := match q.1 c.2.2.1.2.2 with
  | false => true
  | true => q.2.1 c
/-- two slots that hold one int -/
noncomputable def zjp (q : Nat × Nat × Nat × Nat) : zJ := (fun d => zbit d q.1 q.2.1 || zbit d q.2.2.1 q.2.2.2, fun c => zrelE c q, fun ws => ∃ (a1 c1 a2 c2 : Nat) (v1 v2 : List Value) (x : Int32), ws[q.1]? = some (a1, .inr (c1, v1)) ∧ ws[q.2.2.1]? = some (a2, .inr (c2, v2)) ∧ v1[q.2.1]? = some (.int x) ∧ v2[q.2.2.2]? = some (.int x))
theorem zjp_ok {D : va_G} {tys : List (ClassId × FieldType)} {z : Nat} (q : Nat × Nat × Nat × Nat) : zJok D tys z (zjp q) :=
  ⟨fun _ _ _ hb hc h => zrel_cg hc hb h, fun _ _ _ _ _ _ _ _ _ S h => zrelE_ok S h⟩
noncomputable def zcutJ (ck : zK → Bool) (hI : zH) : zCut := fun pc c => match Nat.beq pc 23 with
  | true => some (match zlook c.1 4 with
    | some (.inl q) => (match q.2 with
      | some t => (match Nat.beq t.1 4 && (zle t.2 5 && zle 5 t.2) with
        | true => (match ck c with
          | true => zinc c (zcL zmall (.ofNat 2560) hI 1 6)
          | false => false)
        | false => false)
      | none => false)
    | _ => false)
  | false => none
def ztopI : zI := (.negSucc 2147483647, .ofNat 2147483647)
def zscr (b1 b2 : zI) : List zN := [(ztopI, none), (b1, none), (b2, none), (ztopI, none), (ztopI, none)]
/-- the body from the switch on: what has changed counted from there -/
noncomputable def zbodyG (ds : List zKw) (Js : List zJ) (hI : zH) (jq b1 b2 : zI) : Bool := zrunw zprog2 (zovW ds) 100000 (zcutJ (fun c => zall (zjC c) Js) hI) 2048 84000 (kLawC ds (zscr b1 b2)) (fun _ _ => false) 39 (zcL9 0 hI jq)
/-- the same where a world may change its order -/
noncomputable def zbodyS (ds : List zKw) (Js : List zJ) (hP : zH → zH) (hI hX : zH) (jq b1 b2 : zI) : Bool := zrunw zprog2 (zovW ds) 100000 (zcutJ (fun c => zall (fun q : zJ => q.2.1 c) Js) hI) 2048 84000 (kLawB ds hP (zscr b1 b2)) (fun _ _ => false) 39 (zcL9 zmall hX jq)
abbrev zgoL (p : Program) (l : Launch) (e : Env) (s : State) (m : MethodId) (b : Nat) (below : List Frame) (meth : Method) (c0 : Code) (D : va_G) (tys : List (ClassId × FieldType)) (o : zO) (z : Nat) (ws0 : va_W) (pc : Nat) (c : zK) : Prop := zGo p l e room_1 s m #[Value.ref b] below meth c0 (lw_Z below #[Value.ref b] s) D vwCl tys o z ws0 8 pc c
theorem zof5 {i : Nat} (hi : i ≤ 2560) {t : Int} (ht : t = 5) : Int32.ofNat i + Int32.ofInt t = Int32.ofNat (i + 5) := by
  subst ht
  apply Int32.toInt_inj.mp
  have e0 : (Int32.ofNat i).toInt = (i : Int) := nI_toInt (by omega)
  have e1 : (Int32.ofNat (i + 5)).toInt = ((i + 5 : Nat) : Int) := nI_toInt (by omega)
  rw [e1, Int32.toInt_add, e0, show (Int32.ofInt 5).toInt = 5 by decide, zbm (B := 2147483648) (by decide) (by omega) (by omega)]
  omega
theorem zb0R (k j : Nat) : zbit 0 k j = false := by unfold zbit; exact Nat.zero_testBit _
section ZLOOP
variable {p : Program} {l : Launch} {e : Env} {s : State} {m : MethodId} {below : List Frame} {meth : Method} {c0 : Code} {b : Nat} {D : va_G} {tys : List (ClassId × FieldType)} {o : zO} {z : Nat} {nm : String} {L : Nat} {xs : Nat → Int32} {hI : zH} {ws0 : va_W}
theorem zhead (C : zCx p room_1 s m #[Value.ref b] meth c0 D vwCl tys z (zXX o z) zTs RL cL_law 8 nm) (hX : va_X o.1 L xs s s.heap) (hbl : o.1 < s.heap.size) (hbA : ¬ zA z o.1) (hL : L ≤ 2560) (h0 : z = s.heap.size ∧ meth.sig.returnType = ret ∧ meth.locks = false) {i K S mk : Nat} (hi : i ≤ 2560) (h4 : o.2.2 4 = Int32.ofNat i) (hK : K ≤ 601024) (hS : S ≤ 7293034) (g39 : i + 5 ≤ L → ∃ jq : zI, zmi jq (xs i &&& 63) ∧ zgoL p l e s m b below meth c0 D tys o z ws0 39 (zshf K S (zcL9 mk hI jq))) : zgoL p l e s m b below meth c0 D tys o z ws0 23 (zshf K S (zcL mk (.ofNat 2560) hI 0 0)) := by
  have e4 : (Int32.ofNat i).toInt = (i : Int) := nI_toInt (by omega)
  have eL : (Int32.ofNat L).toInt = (L : Int) := nI_toInt (by omega)
  have g1443 : zgoL p l e s m b below meth c0 D tys o z ws0 1443 ((zcL mk (.ofNat 2560) hI 0 0).1, [.inl ((.ofNat 1, .ofNat 1), none)], (hI.1, hI.2.1, mk), 0 + K, 0 + S) := by
    intro f hf ls vst H locs ws S0
    obtain ⟨v, t, rfl, h1, h2⟩ := zr2_cons S0.2.1
    have e := zr2_nil h2
    subst e
    obtain ⟨x, rfl, ⟨hx1, hx2⟩, -⟩ := zint h1
    have hx1 : (1 : Int) ≤ x.toInt := hx1
    have hx2 : x.toInt ≤ (1 : Int) := hx2
    have hx : x = 1 := by
      apply Int32.toInt_inj.mp
      rw [show (1 : Int32).toInt = 1 by decide]
      omega
    subst hx
    refine va_forget (fun q hq => by rw [← h0.1]; exact S0.2.2.2.2.2.1.2.2 q hq) ?_
    refine W.widen (k := 601024) (n := 7293034) (by show 0 + K ≤ 601024; omega) (by show 0 + S ≤ 7293034; omega) ?_
    exact lw_ret C.1 C.2.1 h0.2.1 h0.2.2 (zdaP zDL5 1443 (by decide) rfl rfl)
  have g1442 : zgoL p l e s m b below meth c0 D tys o z ws0 1442 ((zcL mk (.ofNat 2560) hI 0 0).1, [], (hI.1, hI.2.1, mk), 0 + K, 0 + S) := zst (prog := zprog2) (ret := some .boolean) (zq_iconst (n := .ofNat 1) C (zdaP zDL5 1442 (by decide) rfl rfl) (by decide)) zRetF (zGG_i g1443)
  have g29 : zgoL p l e s m b below meth c0 D tys o z ws0 29 ((zcL mk (.ofNat 2560) hI 0 0).1, [.inl (((L : Int) - 5, (L : Int) - 5), none), .inl ((.ofNat 0, .ofNat 2560), some (4, .ofNat 0))], (hI.1, hI.2.1, mk), 0 + K, 0 + S) := by
    intro f hf ls vst H locs ws S0
    obtain ⟨v, t, rfl, h1, h2⟩ := zr2_cons S0.2.1
    obtain ⟨v2, t2, rfl, h3, h4'⟩ := zr2_cons h2
    have e := zr2_nil h4'
    subst e
    obtain ⟨y, rfl, ⟨hy1, hy2⟩, -⟩ := zint h1
    obtain ⟨x, rfl, -, tx⟩ := zint h3
    have hy1 : (L : Int) - 5 ≤ y.toInt := hy1
    have hy2 : y.toInt ≤ (L : Int) - 5 := hy2
    have ef : f 4 = Int32.ofNat i := (hf 4 (by decide)).trans h4
    have tx : x = f 4 + Int32.ofInt (.ofNat 0) := (ztg_eq (q := (4, .ofNat 0)) (by decide)).mp tx
    have ex : x = Int32.ofNat i := by rw [tx, ef]; exact Int32.add_zero _
    have exi : x.toInt = (i : Int) := by rw [ex, e4]
    refine lv_icmp_gt C.1 C.2.1 (zdaP zDL0 29 (by decide) rfl rfl) (tgt := 1442) (by decide) (fun hlt => ?_) (fun hle => ?_)
    · exact g1442 f hf ls _ H locs ws (zSat_st S0 trivial)
    · have hle : ¬ y < x := hle
      rw [Int32.lt_iff_toInt_lt] at hle
      have h5 : i + 5 ≤ L := by omega
      obtain ⟨jq, hjq, g39⟩ := g39 h5
      obtain ⟨⟨lv, s1, s2⟩, s3⟩ := S0
      obtain ⟨⟨j, v4⟩, lv', rfl, ⟨a1, a2⟩, a3⟩ := zr2_cons s2
      obtain ⟨⟨j0, v0⟩, lv0, e00, ⟨c1, c2⟩, c3⟩ := zr2_cons a3
      have c1 : 0 = j0 := c1
      have a1 : 4 = j := a1
      have c2 : v0 = .ref o.1 := c2
      obtain ⟨x4, rfl, ⟨b1, b2⟩, b3⟩ := a2
      subst c1
      subst c2
      subst a1
      have l4 : ls[4]? = some (.val (.int x4)) := lv_at s1 0 rfl
      have l0 : ls[0]? = some (.val (.ref o.1)) := by rw [e00] at s1; exact lv_at s1 1 rfl
      have b3' : x4 = f 4 + Int32.ofInt (.ofNat 0) := (ztg_eq (q := (4, .ofNat 0)) (by decide)).mp b3
      have ex4 : x4.toInt = (i : Int) := by rw [b3', ef, show Int32.ofInt (.ofNat 0) = 0 by decide, Int32.add_zero, e4]
      obtain ⟨c11, c12⟩ := zclamp (i := ((i : Int), (i : Int))) (x := x4) ⟨by show (i : Int) ≤ x4.toInt; omega, by show x4.toInt ≤ (i : Int); omega⟩ (by rw [zle_iff]; exact Int.le_refl _) (by rw [zle_iff]; show (0 : Int) ≤ (i : Int); omega)
      have c12 : x4.toNatClampNeg = i := by rw [c12]; rfl
      have hin : vp_in x4 L := by
        rintro (q | q)
        · exact c11 q
        · rw [c12] at q; omega
      refine lv_aload_n C.1 C.2.1 (zdaP zDL0 32 (by decide) rfl rfl) rfl l0 ?_
      refine lv_iload C.1 C.2.1 (zdaP zDL0 33 (by decide) rfl rfl) l4 ?_
      refine va_sld C.1 C.2.1 hX hbl hbA s3.2.2.2.2.1 hin (zdaP zDL0 35 (by decide) rfl rfl) ?_
      rw [c12]
      refine lv_bipush C.1 C.2.1 (zdaP zDL0 36 (by decide) rfl rfl) (v := 63) (by decide) ?_
      refine lv_iand C.1 C.2.1 (zdaP zDL0 38 (by decide) rfl rfl) ?_
      exact g39 f hf ls _ H locs ws ⟨⟨_, s1, ⟨rfl, ⟨x4, rfl, ⟨b1, by show x4.toInt ≤ (2555 : Int); omega⟩, b3⟩⟩, a3⟩, ⟨⟨_, rfl, hjq, trivial⟩, trivial⟩, s3.2⟩
  have g28 : zgoL p l e s m b below meth c0 D tys o z ws0 28 ((zcL mk (.ofNat 2560) hI 0 0).1, [.inl ((.ofNat 5, .ofNat 5), none), .inl (((L : Int), (L : Int)), none), .inl ((.ofNat 0, .ofNat 2560), some (4, .ofNat 0))], (hI.1, hI.2.1, mk), 0 + K, 0 + S) := by
    intro f hf ls vst H locs ws S0
    obtain ⟨v, t, rfl, h1, h2⟩ := zr2_cons S0.2.1
    obtain ⟨v2, t2, rfl, h3, h4'⟩ := zr2_cons h2
    obtain ⟨y, rfl, ⟨hy1, hy2⟩, -⟩ := zint h1
    obtain ⟨x, rfl, ⟨hx1, hx2⟩, -⟩ := zint h3
    have hy1 : (5 : Int) ≤ y.toInt := hy1
    have hy2 : y.toInt ≤ (5 : Int) := hy2
    have hx1 : (L : Int) ≤ x.toInt := hx1
    have hx2 : x.toInt ≤ (L : Int) := hx2
    have e : (x - y).toInt = (L : Int) - 5 := by
      rw [Int32.toInt_sub, zbm (B := 2147483648) (by decide) (by omega) (by omega)]
      omega
    exact lv_isub C.1 C.2.1 (zdaP zDL0 28 (by decide) rfl rfl) (g29 f hf ls _ H locs ws (zSat_st S0 ⟨⟨_, rfl, ⟨by show (L : Int) - 5 ≤ (x - y).toInt; omega, by show (x - y).toInt ≤ (L : Int) - 5; omega⟩, trivial⟩, h4'⟩))
  have g27 : zgoL p l e s m b below meth c0 D tys o z ws0 27 ((zcL mk (.ofNat 2560) hI 0 0).1, [.inl (((L : Int), (L : Int)), none), .inl ((.ofNat 0, .ofNat 2560), some (4, .ofNat 0))], (hI.1, hI.2.1, mk), 0 + K, 0 + S) := zst (prog := zprog2) (ret := some .boolean) (zq_iconst (n := .ofNat 5) C (zdaP zDL0 27 (by decide) rfl rfl) (by decide)) zRetF (zGG_i g28)
  have g26 : zgoL p l e s m b below meth c0 D tys o z ws0 26 ((zcL mk (.ofNat 2560) hI 0 0).1, [.inr (.inr (.inr (.inl true))), .inl ((.ofNat 0, .ofNat 2560), some (4, .ofNat 0))], (hI.1, hI.2.1, mk), 0 + K, 0 + S) := zst (prog := zprog2) (ret := some .boolean) (zk_slen (q := ((L : Int), (L : Int))) C hX hbl hbA ⟨by show (L : Int) ≤ _; rw [eL]; exact Int.le_refl _, by show _ ≤ (L : Int); rw [eL]; exact Int.le_refl _⟩ (zdaP zDL0 26 (by decide) rfl rfl)) zRetF (zGG_i g27)
  have g25 : zgoL p l e s m b below meth c0 D tys o z ws0 25 ((zcL mk (.ofNat 2560) hI 0 0).1, [.inl ((.ofNat 0, .ofNat 2560), some (4, .ofNat 0))], (hI.1, hI.2.1, mk), 0 + K, 0 + S) := zst (prog := zprog2) (ret := some .boolean) (zq_aload_n C (zdaP zDL0 25 (by decide) rfl rfl) rfl) zRetF (zGG_i g26)
  exact zst (prog := zprog2) (ret := some .boolean) (zq_iload C (zdaP zDL0 23 (by decide) rfl rfl)) zRetF (zGG_i g25)
theorem zscr_ok {i : Nat} {b1 b2 : zI} (hm1 : zmi b1 (xs (i + 1))) (hm2 : zmi b2 (xs (i + 2))) : ∀ (d : Nat) (q : zN), (zscr b1 b2)[d]? = some q → q.2 = none ∧ zmi q.1 (xs (i + d)) := by
  intro d q hq
  match d, hq with
  | 0, hq => cases hq; exact ⟨rfl, z32 _⟩
  | 1, hq => cases hq; exact ⟨rfl, hm1⟩
  | 2, hq => cases hq; exact ⟨rfl, hm2⟩
  | 3, hq => cases hq; exact ⟨rfl, z32 _⟩
  | 4, hq => cases hq; exact ⟨rfl, z32 _⟩
  | d + 5, hq => simp [zscr] at hq
theorem zcutJ_ok {ck : zK → Bool} {pc : Nat} {c : zK} (hc : zcutJ ck hI pc c = some true) : pc = 23 ∧ (∃ q t, zlook c.1 4 = some (.inl q) ∧ q.2 = some t ∧ t.1 = 4 ∧ t.2 = 5) ∧ ck c = true ∧ zinc c (zcL zmall (.ofNat 2560) hI 1 6) = true := by
  unfold zcutJ at hc
  split at hc
  · rename_i hb
    have hb := Nat.eq_of_beq_eq_true hb
    have hc := Option.some.inj hc
    split at hc
    · rename_i q hq
      split at hc
      · rename_i t ht
        split at hc
        · rename_i hk
          simp only [Bool.and_eq_true, zle_iff] at hk
          split at hc
          · rename_i hr
            exact ⟨hb, ⟨q, t, hq, ht, Nat.eq_of_beq_eq_true hk.1, by omega⟩, hr, hc⟩
          · cases hc
        · cases hc
      · cases hc
    · cases hc
  · cases hc
/-- behind a round -/
abbrev zNx (p : Program) (l : Launch) (e : Env) (s : State) (m : MethodId) (b : Nat) (below : List Frame) (meth : Method) (c0 : Code) (D : va_G) (tys : List (ClassId × FieldType)) (o : zO) (z : Nat) (hI : zH) (Js : List zJ) (i K S : Nat) : Prop := ∀ (ls : Array Slot) (H : Heap) (locs : List Loc) (ws : va_W), zSat D vwCl tys (zwith o (zgv ls)) z [] 8 s.heap (zcL zmall (.ofNat 2560) hI 0 0) ls [] H locs ws → zgv ls 4 = Int32.ofNat (i + 5) → (∀ q ∈ Js, q.2.2 ws) → W p l e room_1 s m #[Value.ref b] below meth c0 H locs (0 + (K + 1)) (0 + (S + 6)) (lw_Z below #[Value.ref b] s) (F0 m 23 ls [])
/-- a round of a case, from the switch on -/
def zSpec (p : Program) (l : Launch) (e : Env) (s : State) (m : MethodId) (b : Nat) (below : List Frame) (meth : Method) (c0 : Code) (D : va_G) (tys : List (ClassId × FieldType)) (o : zO) (z L : Nat) (xs : Nat → Int32) (hI : zH) (Js : List zJ) (jq b1 b2 : zI) : Prop := ∀ (i K S : Nat) (g : Nat → Int32) (ls : Array Slot) (H : Heap) (locs : List Loc) (ws : va_W), g 4 = Int32.ofNat i → i + 5 ≤ L → i ≤ 2560 → 1000 + K ≤ 601024 → 10000 + S ≤ 7293034 → zmi jq (xs i &&& 63) → zmi b1 (xs (i + 1)) → zmi b2 (xs (i + 2)) → ∀ vst, zSat D vwCl tys (zwith o g) z ws 8 s.heap (zcL9 0 hI jq) ls vst H locs ws → (∀ q ∈ Js, q.2.2 ws) → zNx p l e s m b below meth c0 D tys o z hI Js i K S → W p l e room_1 s m #[Value.ref b] below meth c0 H locs (0 + K) (0 + S) (lw_Z below #[Value.ref b] s) (F0 m 39 ls vst)
/-- from a cut behind a body to what comes next -/
theorem znxt {w9 : va_W} {Js : List zJ} {i K S : Nat} {g : Nat → Int32} (hi : i ≤ 2560) (hg : g 4 = Int32.ofNat i) (hn : zNx p l e s m b below meth c0 D tys o z hI Js i K S) {c : zK} (hl : ∃ q t, zlook c.1 4 = some (.inl q) ∧ q.2 = some t ∧ t.1 = 4 ∧ t.2 = 5) (hi9 : zinc c (zcL zmall (.ofNat 2560) hI 1 6) = true) {f : Nat → Int32} (hf : zag g f) {ls : Array Slot} {vst : List Value} {H : Heap} {locs : List Loc} {ws' : va_W} (S1 : zSat D vwCl tys (zwith (zwith o g) f) z w9 8 s.heap c ls vst H locs ws') (hR' : ∀ q ∈ Js, q.2.2 ws') : W p l e room_1 s m #[Value.ref b] below meth c0 H locs (c.2.2.2.1 + K) (c.2.2.2.2 + S) (lw_Z below #[Value.ref b] s) (F0 m 23 ls vst) := by
  obtain ⟨q, t, hq, ht, k1, k2⟩ := hl
  obtain ⟨S2, w1, w2⟩ := zinc_ok hi9 S1
  obtain ⟨v, hv1, hv2⟩ := zlv S1.1 hq
  obtain ⟨x, rfl, hx, tx⟩ := zint hv2
  rw [ht] at tx
  have tx : x = f t.1 + Int32.ofInt t.2 := (ztg_eq (by omega)).mp tx
  have ef : f 4 = Int32.ofNat i := (hf 4 (by decide)).trans hg
  rw [k1, ef, zof5 hi k2] at tx
  have e5 : zgv ls 4 = Int32.ofNat (i + 5) := by rw [zgv_lo (by omega) hv1, tx]
  have ev := zr2_nil S2.2.1
  subst ev
  have w1 : c.2.2.2.1 ≤ 1 := w1
  have w2 : c.2.2.2.2 ≤ 6 := w2
  exact W.widen (k := 0 + (K + 1)) (n := 0 + (S + 6)) (by omega) (by omega) (hn ls H locs ws' ⟨S2.1, S2.2.1, S2.2.2.1, S2.2.2.2.1, S2.2.2.2.2.1, S2.2.2.2.2.2.1, fun k a e he => by simp at he⟩ e5 hR')
/-- a case that keeps what is kept -/
theorem zspG (E : zEnv tys) {ds : List zKw} (hov : ∀ g, zOwOk l D vwCl tys (zwith o g) z (zXX o z) zTs zprog2 (zovW ds)) (C : zCx p room_1 s m #[Value.ref b] meth c0 D vwCl tys z (zXX o z) zTs RL cL_law 8 nm) (hX : va_X o.1 L xs s s.heap) (hbl : o.1 < s.heap.size) (hbA : ¬ zA z o.1) (hL : L ≤ 2560) (hst : l.stackTraces = false) (hTh : zTh z s s.heap) {Js : List zJ} (hJ : ∀ q ∈ Js, zJok D tys z q) {jq b1 b2 : zI} (hr : zbodyG ds Js hI jq b1 b2 = true) : zSpec p l e s m b below meth c0 D tys o z L xs hI Js jq b1 b2 := by
  intro i K S g ls H locs ws hg h5 hi hK hS _ hm1 hm2 vst S0 hR hn
  unfold zbodyG at hr
  refine zrunw_G (R := room_1) (G := fun pc c => zgoL p l e s m b below meth c0 D tys (zwith o g) z ws pc (zshf K S c)) (hov g) zXX_ok (zprog2_ok E) (by decide) (by decide) (fun pc sem hp => okLawC (o := zwith o g) (below := below) (e := e) (sc := zscr b1 b2) E C (hov g) hX hbl hbA hg (show i + 5 ≤ L from h5) hL (zscr_ok hm1 hm2) hst hTh (by omega) (by omega) pc sem hp) ?_ 100000 39 _ hr g (fun _ _ => rfl) ls vst H locs ws S0
  intro pc c hc
  obtain ⟨e0, hl, hck, hinc⟩ := zcutJ_ok hc
  subst e0
  intro f hf ls' vst' H' locs' ws' S1
  have S1 : zSat D vwCl tys (zwith (zwith o g) f) z ws 8 s.heap c ls' vst' H' locs' ws' := S1
  refine znxt hi hg hn hl hinc hf S1 (fun q hq => ?_)
  have h9 := zall_mem hck q hq
  unfold zjC at h9
  split at h9
  · rename_i hb
    exact (hJ q hq).1 _ _ _ hb S1.2.2.2.2.2.2 (hR q hq)
  · exact (hJ q hq).2 _ _ _ _ _ _ _ _ _ S1 h9
/-- a case by the worlds of a family -/
theorem zspF (E : zEnv tys) {ds : List zKw} (hov : ∀ g, zOwOk l D vwCl tys (zwith o g) z (zXX o z) zTs zprog2 (zovW ds)) (C : zCx p room_1 s m #[Value.ref b] meth c0 D vwCl tys z (zXX o z) zTs RL cL_law 8 nm) (hX : va_X o.1 L xs s s.heap) (hbl : o.1 < s.heap.size) (hbA : ¬ zA z o.1) (hL : L ≤ 2560) (hst : l.stackTraces = false) (hTh : zTh z s s.heap) {Js : List zJ} (hJ : ∀ q ∈ Js, zJok D tys z q) {hP : zH → zH} {fam : List zH} (hfam : ∀ ws, zwr vwCl tys o hI ws → (∀ q ∈ Js, q.2.2 ws) → ∃ h ∈ fam, zwr vwCl tys o h ws) {jq b1 b2 : zI} (hr : ∀ h ∈ fam, zbodyS ds Js hP hI h jq b1 b2 = true) : zSpec p l e s m b below meth c0 D tys o z L xs hI Js jq b1 b2 := by
  intro i K S g ls H locs ws hg h5 hi hK hS _ hm1 hm2 vst S0 hR hn
  obtain ⟨h, hhf, hwh⟩ := hfam ws ⟨S0.2.2.1.1, S0.2.2.1.2⟩ hR
  have hr := hr h hhf
  unfold zbodyS at hr
  refine zrunw_G (R := room_1) (G := fun pc c => zgoL p l e s m b below meth c0 D tys (zwith o g) z [] pc (zshf K S c)) (hov g) zXX_ok (zprog2_ok E) (by decide) (by decide) (fun pc sem hp => okLawB (o := zwith o g) (below := below) (e := e) (sc := zscr b1 b2) E C (hov g) (hI := hP) hX hbl hbA hg (show i + 5 ≤ L from h5) hL (zscr_ok hm1 hm2) hst hTh (by omega) (by omega) pc sem hp) ?_ 100000 39 _ hr g (fun _ _ => rfl) ls vst H locs ws ⟨S0.1, S0.2.1, ⟨hwh.1, hwh.2⟩, S0.2.2.2.1, S0.2.2.2.2.1, S0.2.2.2.2.2.1, fun k a e he => by simp at he⟩
  intro pc c hc
  obtain ⟨e0, hl, hck, hinc⟩ := zcutJ_ok hc
  subst e0
  intro f hf ls' vst' H' locs' ws' S1
  have S1 : zSat D vwCl tys (zwith (zwith o g) f) z [] 8 s.heap c ls' vst' H' locs' ws' := S1
  exact znxt hi hg hn hl hinc hf S1 (fun q hq => (hJ q hq).2 _ _ _ _ _ _ _ _ _ S1 (zall_mem hck q hq))
set_option maxHeartbeats 4000000 in
theorem zloop (C : zCx p room_1 s m #[Value.ref b] meth c0 D vwCl tys z (zXX o z) zTs RL cL_law 8 nm) (hX : va_X o.1 L xs s s.heap) (hbl : o.1 < s.heap.size) (hbA : ¬ zA z o.1) (hL : L ≤ 2560) (h0 : z = s.heap.size ∧ meth.sig.returnType = ret ∧ meth.locks = false) {Js : List zJ} (hJ : ∀ q ∈ Js, zJok D tys z q) (hJ0 : ∀ q ∈ Js, q.1 0 = false) {js : List zI} {B1 B2 : zI → List zI} (hj : zcov64 0 js = true) (h1 : ∀ j ∈ js, zcov (-2147483648) (B1 j) = true) (h2 : ∀ j ∈ js, zcov (-2147483648) (B2 j) = true) (hSp : ∀ j ∈ js, ∀ b1 ∈ B1 j, ∀ b2 ∈ B2 j, zSpec p l e s m b below meth c0 D tys o z L xs hI Js j b1 b2) : ∀ (n i K S : Nat) (g : Nat → Int32), g 4 = Int32.ofNat i → i ≤ 2560 → L < i + 5 * n + 5 → 1000 + K + n ≤ 601024 → 10000 + S + 6 * n ≤ 7293034 → ∀ (ls : Array Slot) (H : Heap) (locs : List Loc) (ws : va_W), zSat D vwCl tys (zwith o g) z [] 8 s.heap (zcL zmall (.ofNat 2560) hI 0 0) ls [] H locs ws → (∀ q ∈ Js, q.2.2 ws) → W p l e room_1 s m #[Value.ref b] below meth c0 H locs (0 + K) (0 + S) (lw_Z below #[Value.ref b] s) (F0 m 23 ls []) := by
  intro n
  induction n with
  | zero =>
    intro i K S g hg hi hlt hK hS ls H locs ws S0 hR
    exact zhead (o := zwith o g) (ws0 := []) (mk := zmall) C hX hbl hbA hL h0 hi hg (by omega) (by omega) (fun h => absurd h (by omega)) g (fun _ _ => rfl) ls [] H locs ws S0
  | succ n ih =>
    intro i K S g hg hi hlt hK hS ls H locs ws S0 hR
    have S9 : zSat D vwCl tys (zwith o g) z ws 8 s.heap (zcL 0 (.ofNat 2560) hI 0 0) ls [] H locs ws := ⟨S0.1, S0.2.1, ⟨S0.2.2.1.1, S0.2.2.1.2⟩, S0.2.2.2.1, S0.2.2.2.2.1, S0.2.2.2.2.2.1, zcg_rf⟩
    refine zhead (o := zwith o g) (ws0 := ws) (mk := 0) C hX hbl hbA hL h0 hi hg (by omega) (by omega) (fun h5 => ?_) g (fun _ _ => rfl) ls [] H locs ws S9
    obtain ⟨j, hjm, hmj⟩ := zcov64_ok hj (zand63 (xs i))
    obtain ⟨b1, hb1, hm1⟩ := zcov_ok (x := xs (i + 1)) (h1 j hjm) (z32 _).1
    obtain ⟨b2, hb2, hm2⟩ := zcov_ok (x := xs (i + 2)) (h2 j hjm) (z32 _).1
    refine ⟨j, hmj, ?_⟩
    intro f hf ls' vst' H' locs' ws' S1
    have S1 : zSat D vwCl tys (zwith (zwith o g) f) z ws 8 s.heap (zcL9 0 hI j) ls' vst' H' locs' ws' := S1
    have hR1 : ∀ q ∈ Js, q.2.2 ws' := fun q hq => (hJ q hq).1 0 ws ws' (hJ0 q hq) S1.2.2.2.2.2.2 (hR q hq)
    have ef : f 4 = Int32.ofNat i := (hf 4 (by decide)).trans hg
    refine hSp j hjm b1 hb1 b2 hb2 i K S f ls' H' locs' ws' ef h5 hi (by omega) (by omega) hmj hm1 hm2 vst' ⟨S1.1, S1.2.1, S1.2.2.1, S1.2.2.2.1, S1.2.2.2.2.1, S1.2.2.2.2.2.1, zcg_rf⟩ hR1 (fun ls9 H9 locs9 ws9 S2 e9 hR2 => ?_)
    exact ih (i + 5) (K + 1) (S + 6) (zgv ls9) e9 (by omega) (by omega) (by omega) (by omega) ls9 H9 locs9 ws9 S2 hR2
end ZLOOP
/-! a slot as one number -/
noncomputable def zxv (h : zH) (k j : Nat) (n : Int) : zH := match zrget h.2.1 k with
  | some (.inr (ci, fs)) => (h.1, zrset h.2.1 k (.inr (ci, zset fs (.inl ((n, n), none)) j)), h.2.2)
  | _ => h
/-- a slot as it is in another world -/
noncomputable def zxc (h g : zH) (k j : Nat) : zH := match zrget h.2.1 k with
  | some (.inr (_, fs)) => (match zget fs j with
    | some a => (match zrget g.2.1 k with
      | some (.inr (ci, gs)) => (g.1, zrset g.2.1 k (.inr (ci, zset gs a j)), g.2.2)
      | _ => g)
    | none => g)
  | _ => g
section ZEX
variable {cl : List vw_C} {tys : List (ClassId × FieldType)} {o : zO}
theorem zr2_setL {α β : Type} {R : α → β → Prop} : ∀ {s : List α} {t : List β} (k : Nat) {a : α} {b : β}, zr2 R s t → t[k]? = some b → R a b → zr2 R (s.set k a) t
  | [], [], _, _, _, _, _, _ => trivial
  | _ :: _, _ :: _, 0, _, _, q, h, hr => by cases h; exact ⟨hr, q.2⟩
  | _ :: _, _ :: _, k + 1, _, _, q, h, hr => ⟨q.1, zr2_setL k q.2 h hr⟩
  | [], _ :: _, _, _, _, q, _, _ => q.elim
  | _ :: _, [], _, _, _, q, _, _ => q.elim
theorem zxv_ok {h : zH} {ws : va_W} (w : zwr cl tys o h ws) {k j a1 c1 : Nat} {v1 : List Value} {x : Int32} {n : Int} (h1 : ws[k]? = some (a1, .inr (c1, v1))) (h2 : v1[j]? = some (.int x)) (hx : x.toInt = n) : zwr cl tys o (zxv h k j n) ws := by
  unfold zxv
  split
  · rename_i ci fs hc
    refine ⟨w.1, fun i hi => ?_⟩
    dsimp only
    rw [zrget_set hc]
    obtain ⟨c, a, e, g1, g2, g3⟩ := w.2 i hi
    by_cases hik : i = k
    · subst hik
      rw [if_pos rfl]
      rw [hc] at g1
      cases g1
      rw [h1] at g2
      cases g2
      obtain ⟨vs, he, hvs⟩ := g3
      cases he
      refine ⟨_, a1, _, rfl, h1, v1, rfl, ?_⟩
      dsimp only
      rw [zset_eq]
      exact zr2_setL j hvs h2 ⟨x, rfl, by show n ≤ x.toInt; omega, by show x.toInt ≤ n; omega⟩
    · rw [if_neg hik]
      exact ⟨c, a, e, g1, g2, g3⟩
  · exact w
theorem zbnd {h : zH} {ws : va_W} (w : zwr cl tys o h ws) {k j ci a1 c1 : Nat} {fs : List zAV} {a : zN} {v1 : List Value} {x : Int32} (hc : zrget h.2.1 k = some (.inr (ci, fs))) (hj : fs[j]? = some (.inl a)) (hk : k < h.1) (h1 : ws[k]? = some (a1, .inr (c1, v1))) (h2 : v1[j]? = some (.int x)) : zmi a.1 x := by
  obtain ⟨c, a9, e, g1, g2, g3⟩ := w.2 k hk
  rw [hc] at g1
  cases g1
  rw [h1] at g2
  cases g2
  obtain ⟨vs, he, hvs⟩ := g3
  cases he
  obtain ⟨v, q1, q2⟩ := zr2_get j hvs hj
  rw [h2] at q1
  cases q1
  obtain ⟨y, hy, h9⟩ := q2
  cases hy
  exact h9
end ZEX
