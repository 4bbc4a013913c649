/-! THE LAW'S LOOP: any script, if a body's walk holds for any argument -/
def zcov : Int → List zI → Bool
  | lo, [] => zle 2147483648 lo
  | lo, q :: t => zle q.1 lo && zcov (q.2 + 1) t
theorem zcov_ok : ∀ {l : List zI} {lo : Int} {x : Int32}, zcov lo l = true → lo ≤ x.toInt → ∃ q ∈ l, zmi q x
  | [], lo, x, h, hx => by
    have h : zle 2147483648 lo = true := h
    rw [zle_iff] at h
    have := (z32 x).2
    omega
  | q :: t, lo, x, h, hx => by
    have h : (zle q.1 lo && zcov (q.2 + 1) t) = true := h
    rw [Bool.and_eq_true, zle_iff] at h
    by_cases hq : x.toInt ≤ q.2
    · exact ⟨q, List.mem_cons_self, by have := h.1; omega, hq⟩
    · obtain ⟨q', h1, h2⟩ := zcov_ok (x := x) h.2 (by omega)
      exact ⟨q', List.mem_cons_of_mem _ h1, h2⟩
def zmall : Nat := Nat.sub (Nat.shiftLeft 1 8192) 1
noncomputable def zcL (top : Int) (hI : zH) (cs sl : Nat) : zK := ([(4, .inl ((.ofNat 0, top), some (4, .ofNat 0))), (0, .inr (.inr (.inr (.inl true)))), (1, .inr (.inr (.inl 0))), (2, .inr (.inr (.inl 94))), (3, .inr (.inr (.inl 125)))], [], (hI.1, hI.2.1, zmall), cs, sl)
noncomputable def zcutL (hI : zH) : zCut := fun pc c => match Nat.beq pc 23 with
  | true => some (match zlook c.1 4 with
    | some (.inl q) => (match q.2 with
      | some t => (match Nat.beq t.1 4 && (zle t.2 5 && zle 5 t.2) with
        | true => zinc c (zcL (.ofNat 2560) hI 1 6)
        | false => false)
      | none => false)
    | _ => false)
  | false => none
def ztopI : zI := (.negSucc 2147483647, .ofNat 2147483647)
def zscr (b1 : zI) : List zN := [(ztopI, none), (b1, none), (ztopI, none), (ztopI, none), (ztopI, none)]
noncomputable def zbody (ds : List zKw) (hI : zH) (b1 : zI) : Bool := zrunw zprog2 (zovW ds) 100000 (zcutL hI) 2048 84000 (kLawB ds hI (zscr b1)) (fun _ _ => false) 32 (zcL (.ofNat 2555) hI 0 0)
abbrev zgoL (p : Program) (l : Launch) (e : Env) (s : State) (m : MethodId) (b : Nat) (below : List Frame) (meth : Method) (c0 : Code) (D : va_G) (tys : List (ClassId × FieldType)) (o : zO) (z : Nat) (pc : Nat) (c : zK) : Prop := zGo p l e room_1 s m #[Value.ref b] below meth c0 (lw_Z below #[Value.ref b] s) D vwCl tys o z [] 8 pc c
theorem zof5 {i : Nat} (hi : i ≤ 2560) {t : Int} (ht : t = 5) : Int32.ofNat i + Int32.ofInt t = Int32.ofNat (i + 5) := by
  subst ht
  apply Int32.toInt_inj.mp
  have e0 : (Int32.ofNat i).toInt = (i : Int) := nI_toInt (by omega)
  have e1 : (Int32.ofNat (i + 5)).toInt = ((i + 5 : Nat) : Int) := nI_toInt (by omega)
  rw [e1, Int32.toInt_add, e0, show (Int32.ofInt 5).toInt = 5 by decide, zbm (B := 2147483648) (by decide) (by omega) (by omega)]
  omega
section ZLOOP
variable {p : Program} {l : Launch} {e : Env} {s : State} {m : MethodId} {below : List Frame} {meth : Method} {c0 : Code} {b : Nat} {D : va_G} {tys : List (ClassId × FieldType)} {o : zO} {z : Nat} {nm : String} {L : Nat} {xs : Nat → Int32} {hI : zH}
theorem zhead (C : zCx p room_1 s m #[Value.ref b] meth c0 D vwCl tys z (zXX o z) zTs RL cL_law 8 nm) (hX : va_X o.1 L xs s s.heap) (hbl : o.1 < s.heap.size) (hbA : ¬ zA z o.1) (hL : L ≤ 2560) (h0 : z = s.heap.size ∧ meth.sig.returnType = ret ∧ meth.locks = false) {i K S : Nat} (hi : i ≤ 2560) (h4 : o.2.2 4 = Int32.ofNat i) (hK : K ≤ 601024) (hS : S ≤ 7293034) (g32 : i + 5 ≤ L → zgoL p l e s m b below meth c0 D tys o z 32 (zshf K S (zcL (.ofNat 2555) hI 0 0))) : zgoL p l e s m b below meth c0 D tys o z 23 (zshf K S (zcL (.ofNat 2560) hI 0 0)) := by
  have e4 : (Int32.ofNat i).toInt = (i : Int) := nI_toInt (by omega)
  have eL : (Int32.ofNat L).toInt = (L : Int) := nI_toInt (by omega)
  have g1443 : zgoL p l e s m b below meth c0 D tys o z 1443 ((zcL (.ofNat 2560) hI 0 0).1, [.inl ((.ofNat 1, .ofNat 1), none)], (hI.1, hI.2.1, zmall), 0 + K, 0 + S) := by
    intro f hf ls vst H locs ws S0
    obtain ⟨v, t, rfl, h1, h2⟩ := zr2_cons S0.2.1
    have e := zr2_nil h2
    subst e
    obtain ⟨x, rfl, ⟨hx1, hx2⟩, -⟩ := zint h1
    have hx1 : (1 : Int) ≤ x.toInt := hx1
    have hx2 : x.toInt ≤ (1 : Int) := hx2
    have hx : x = 1 := by
      apply Int32.toInt_inj.mp
      rw [show (1 : Int32).toInt = 1 by decide]
      omega
    subst hx
    refine va_forget (fun q hq => by rw [← h0.1]; exact S0.2.2.2.2.2.1.2.2 q hq) ?_
    refine W.widen (k := 601024) (n := 7293034) (by show 0 + K ≤ 601024; omega) (by show 0 + S ≤ 7293034; omega) ?_
    exact lw_ret C.1 C.2.1 h0.2.1 h0.2.2 dL_law_1443
  have g1442 : zgoL p l e s m b below meth c0 D tys o z 1442 ((zcL (.ofNat 2560) hI 0 0).1, [], (hI.1, hI.2.1, zmall), 0 + K, 0 + S) := zst (prog := zprog2) (ret := some .boolean) (zq_iconst (n := .ofNat 1) C dL_law_1442 (by decide)) zRetF (zGG_i g1443)
  have g29 : zgoL p l e s m b below meth c0 D tys o z 29 ((zcL (.ofNat 2560) hI 0 0).1, [.inl (((L : Int) - 5, (L : Int) - 5), none), .inl ((.ofNat 0, .ofNat 2560), some (4, .ofNat 0))], (hI.1, hI.2.1, zmall), 0 + K, 0 + S) := by
    intro f hf ls vst H locs ws S0
    obtain ⟨v, t, rfl, h1, h2⟩ := zr2_cons S0.2.1
    obtain ⟨v2, t2, rfl, h3, h4'⟩ := zr2_cons h2
    have e := zr2_nil h4'
    subst e
    obtain ⟨y, rfl, ⟨hy1, hy2⟩, -⟩ := zint h1
    obtain ⟨x, rfl, -, tx⟩ := zint h3
    have hy1 : (L : Int) - 5 ≤ y.toInt := hy1
    have hy2 : y.toInt ≤ (L : Int) - 5 := hy2
    have ef : f 4 = Int32.ofNat i := (hf 4 (by decide)).trans h4
    have tx : x = f 4 + Int32.ofInt (.ofNat 0) := (ztg_eq (q := (4, .ofNat 0)) (by decide)).mp tx
    have ex : x = Int32.ofNat i := by rw [tx, ef]; exact Int32.add_zero _
    have exi : x.toInt = (i : Int) := by rw [ex, e4]
    refine lv_icmp_gt C.1 C.2.1 dL_law_29 (tgt := 1442) (by decide) (fun hlt => ?_) (fun hle => ?_)
    · exact g1442 f hf ls _ H locs ws (zSat_st S0 trivial)
    · have hle : ¬ y < x := hle
      rw [Int32.lt_iff_toInt_lt] at hle
      have h5 : i + 5 ≤ L := by omega
      obtain ⟨⟨lv, s1, s2⟩, s3⟩ := S0
      obtain ⟨⟨j, v4⟩, lv', rfl, ⟨a1, a2⟩, a3⟩ := zr2_cons s2
      obtain ⟨x4, rfl, ⟨b1, b2⟩, b3⟩ := a2
      have b3' : x4 = f 4 + Int32.ofInt (.ofNat 0) := (ztg_eq (q := (4, .ofNat 0)) (by decide)).mp b3
      have ex4 : x4.toInt = (i : Int) := by rw [b3', ef, show Int32.ofInt (.ofNat 0) = 0 by decide, Int32.add_zero, e4]
      refine g32 h5 f hf ls [] H locs ws ⟨⟨_, s1, ⟨a1, ⟨x4, rfl, ⟨b1, by show x4.toInt ≤ (2555 : Int); omega⟩, b3⟩⟩, a3⟩, trivial, s3.2⟩
  have g28 : zgoL p l e s m b below meth c0 D tys o z 28 ((zcL (.ofNat 2560) hI 0 0).1, [.inl ((.ofNat 5, .ofNat 5), none), .inl (((L : Int), (L : Int)), none), .inl ((.ofNat 0, .ofNat 2560), some (4, .ofNat 0))], (hI.1, hI.2.1, zmall), 0 + K, 0 + S) := by
    intro f hf ls vst H locs ws S0
    obtain ⟨v, t, rfl, h1, h2⟩ := zr2_cons S0.2.1
    obtain ⟨v2, t2, rfl, h3, h4'⟩ := zr2_cons h2
    obtain ⟨y, rfl, ⟨hy1, hy2⟩, -⟩ := zint h1
    obtain ⟨x, rfl, ⟨hx1, hx2⟩, -⟩ := zint h3
    have hy1 : (5 : Int) ≤ y.toInt := hy1
    have hy2 : y.toInt ≤ (5 : Int) := hy2
    have hx1 : (L : Int) ≤ x.toInt := hx1
    have hx2 : x.toInt ≤ (L : Int) := hx2
    have e : (x - y).toInt = (L : Int) - 5 := by
      rw [Int32.toInt_sub, zbm (B := 2147483648) (by decide) (by omega) (by omega)]
      omega
    exact lv_isub C.1 C.2.1 dL_law_28 (g29 f hf ls _ H locs ws (zSat_st S0 ⟨⟨_, rfl, ⟨by show (L : Int) - 5 ≤ (x - y).toInt; omega, by show (x - y).toInt ≤ (L : Int) - 5; omega⟩, trivial⟩, h4'⟩))
  have g27 : zgoL p l e s m b below meth c0 D tys o z 27 ((zcL (.ofNat 2560) hI 0 0).1, [.inl (((L : Int), (L : Int)), none), .inl ((.ofNat 0, .ofNat 2560), some (4, .ofNat 0))], (hI.1, hI.2.1, zmall), 0 + K, 0 + S) := zst (prog := zprog2) (ret := some .boolean) (zq_iconst (n := .ofNat 5) C dL_law_27 (by decide)) zRetF (zGG_i g28)
  have g26 : zgoL p l e s m b below meth c0 D tys o z 26 ((zcL (.ofNat 2560) hI 0 0).1, [.inr (.inr (.inr (.inl true))), .inl ((.ofNat 0, .ofNat 2560), some (4, .ofNat 0))], (hI.1, hI.2.1, zmall), 0 + K, 0 + S) := zst (prog := zprog2) (ret := some .boolean) (zk_slen (q := ((L : Int), (L : Int))) C hX hbl hbA ⟨by show (L : Int) ≤ _; rw [eL]; exact Int.le_refl _, by show _ ≤ (L : Int); rw [eL]; exact Int.le_refl _⟩ dL_law_26) zRetF (zGG_i g27)
  have g25 : zgoL p l e s m b below meth c0 D tys o z 25 ((zcL (.ofNat 2560) hI 0 0).1, [.inl ((.ofNat 0, .ofNat 2560), some (4, .ofNat 0))], (hI.1, hI.2.1, zmall), 0 + K, 0 + S) := zst (prog := zprog2) (ret := some .boolean) (zq_aload_n C dL_law_25 rfl) zRetF (zGG_i g26)
  exact zst (prog := zprog2) (ret := some .boolean) (zq_iload C dL_law_23) zRetF (zGG_i g25)
theorem zloop (E : zEnv tys) {ds : List zKw} (hov : ∀ g, zOwOk l D vwCl tys (zwith o g) z (zXX o z) zTs zprog2 (zovW ds)) (C : zCx p room_1 s m #[Value.ref b] meth c0 D vwCl tys z (zXX o z) zTs RL cL_law 8 nm) (hX : va_X o.1 L xs s s.heap) (hbl : o.1 < s.heap.size) (hbA : ¬ zA z o.1) (hL : L ≤ 2560) (h0 : z = s.heap.size ∧ meth.sig.returnType = ret ∧ meth.locks = false) (hst : l.stackTraces = false) (hTh : zTh z s s.heap) {bxs : List zI} (hcov : zcov (-2147483648) bxs = true) (hrun : ∀ q ∈ bxs, zbody ds hI q = true) : ∀ (n i K S : Nat) (g : Nat → Int32), g 4 = Int32.ofNat i → i ≤ 2560 → L < i + 5 * n + 5 → 1000 + K + n ≤ 601024 → 10000 + S + 6 * n ≤ 7293034 → zgoL p l e s m b below meth c0 D tys (zwith o g) z 23 (zshf K S (zcL (.ofNat 2560) hI 0 0)) := by
  intro n
  induction n with
  | zero =>
    intro i K S g hg hi hlt hK hS
    exact zhead (o := zwith o g) C hX hbl hbA hL h0 hi hg (by omega) (by omega) (fun h => absurd h (by omega))
  | succ n ih =>
    intro i K S g hg hi hlt hK hS
    refine zhead (o := zwith o g) C hX hbl hbA hL h0 hi hg (by omega) (by omega) (fun h5 => ?_)
    obtain ⟨b1, hb1, hm1⟩ := zcov_ok (x := xs (i + 1)) hcov (z32 _).1
    have hr := hrun b1 hb1
    unfold zbody at hr
    have hsc : ∀ (d : Nat) (q : zN), (zscr b1)[d]? = some q → q.2 = none ∧ zmi q.1 (xs (i + d)) := by
      intro d q hq
      match d, hq with
      | 0, hq => cases hq; exact ⟨rfl, z32 _⟩
      | 1, hq => cases hq; exact ⟨rfl, hm1⟩
      | 2, hq => cases hq; exact ⟨rfl, z32 _⟩
      | 3, hq => cases hq; exact ⟨rfl, z32 _⟩
      | 4, hq => cases hq; exact ⟨rfl, z32 _⟩
      | d + 5, hq => simp [zscr] at hq
    refine zrunw_G (R := room_1) (G := fun pc c => zgoL p l e s m b below meth c0 D tys (zwith o g) z pc (zshf K S c)) (hov g) zXX_ok (zprog2_ok E) (by decide) (by decide) (fun pc sem hp => okLawB (o := zwith o g) (below := below) (e := e) (sc := zscr b1) E C (hov g) (hI := hI) hX hbl hbA hg (show i + 5 ≤ L from h5) hL hsc hst hTh (by omega) (by omega) pc sem hp) ?_ 100000 32 _ hr
    intro pc c hc
    unfold zcutL at hc
    split at hc
    · rename_i hb
      have hb := Nat.eq_of_beq_eq_true hb
      subst hb
      have hc := Option.some.inj hc
      split at hc
      · rename_i q hq
        split at hc
        · rename_i t ht
          split at hc
          · rename_i hk
            simp only [Bool.and_eq_true, zle_iff] at hk
            obtain ⟨k1, k2, k3⟩ := hk
            have k1 := Nat.eq_of_beq_eq_true k1
            intro f hf ls vst H locs ws S0
            have S0 : zSat D vwCl tys (zwith (zwith o g) f) z [] 8 s.heap c ls vst H locs ws := S0
            obtain ⟨S2, w1, w2⟩ := zinc_ok hc S0
            obtain ⟨v, hv1, hv2⟩ := zlv S0.1 hq
            obtain ⟨x, rfl, hx, tx⟩ := zint hv2
            rw [ht] at tx
            have tx : x = f t.1 + Int32.ofInt t.2 := (ztg_eq (by omega)).mp tx
            have ef : f 4 = Int32.ofNat i := (hf 4 (by decide)).trans hg
            rw [k1, ef, zof5 hi (by omega)] at tx
            have e5 : zgv ls 4 = Int32.ofNat (i + 5) := by rw [zgv_lo (by omega) hv1, tx]
            have w1 : c.2.2.2.1 ≤ 1 := w1
            have w2 : c.2.2.2.2 ≤ 6 := w2
            exact W.widen (k := 0 + (K + 1)) (n := 0 + (S + 6)) (by show c.2.2.2.1 + K ≤ _; omega) (by show c.2.2.2.2 + S ≤ _; omega) (ih (i + 5) (K + 1) (S + 6) (zgv ls) e5 (by omega) (by omega) (by omega) (by omega) (zgv ls) (fun _ _ => rfl) ls vst H locs ws S2)
          · cases hc
        · cases hc
      · cases hc
    · cases hc
end ZLOOP
