/-! LOOPS OVER NIGHTS: name 1 is how many, 5 the loop's own number, 7 the GAPS so far, 9 the GAPS at its end -/
def zMn0 : zMp := [((none, .ofNat 0), (5, .ofNat 0)), ((none, .ofNat 0), (7, .ofNat 0)), ((some 1, .ofNat 0), (1, .ofNat 0)), ((some 9, .ofNat 0), (9, .ofNat 0))]
def zMn1 : zMp := [((some 5, .ofNat 1), (5, .ofNat 0)), ((some 7, .ofNat 8), (7, .ofNat 0)), ((some 1, .ofNat 0), (1, .ofNat 0)), ((some 9, .ofNat 0), (9, .ofNat 0))]
def zMn2 : zMp := [((some 7, .ofNat 0), (9, .ofNat 0)), ((some 1, .ofNat 0), (1, .ofNat 0)), ((some 9, .ofNat 0), (9, .ofNat 0))]
theorem z0i : Int32.ofInt (.ofNat 0) = 0 := by decide +kernel
theorem z1i : Int32.ofInt (.ofNat 1) = 1 := by decide +kernel
theorem z8i : Int32.ofInt (.ofNat 8) = 8 := by decide +kernel
theorem zofNat_of {x : Int32} (h : 0 ≤ x.toInt) : Int32.ofNat x.toInt.toNat = x := by
  rw [← Int32.ofInt_eq_ofNat, Int.toNat_of_nonneg h, Int32.ofInt_toInt]
theorem zinc_i {x : Int32} {n : Int} (h : x.toInt < n) (hn : n ≤ 2147483647) : (x + 1).toInt = x.toInt + 1 := by
  have h0 := (z32 x).1
  rw [Int32.toInt_add, show (1 : Int32).toInt = 1 by decide]
  exact zbm (B := 2147483648) (by decide) (by omega) (by omega)
theorem zKnN {l : Launch} {D : va_G} {tys : List (ClassId × FieldType)} {o : zO} {z : Nat} (E : zEnv tys) {mi : Nat} {mr : zM} (hm : zget zprog mi = some mr) {hp cp gp t nx : Nat} {y1 y2 : Option zSem} (hhp : zrget mr.2.2.2.2.2.2 hp = some y2) (hgp : zrget mr.2.2.2.2.2.2 gp = some (some (zo_goto hp))) (hcp : zrget mr.2.2.2.2.2.2 cp = some y1) (hne : gp ≠ cp)
    (hcmp : ∀ (p : Program) (e : Env) (R : Room) (s : State) (m : MethodId) (args : Array Value) (below : List Frame) (meth : Method) (c0 : Code) (Q : State → Prop) (ws : va_W) (f : Nat → Int32) (b : Bool), zCx p R s m args meth c0 D vwCl tys z (zXX o z) zTs mr.1.cls mr.2.1 mr.2.2.1 mr.1.name → zdec (f 1 ≤ f 5) (some b) → zOp p l e R s m args below meth c0 Q D vwCl tys (zwith o f) z (zXX o z) zTs zprog ws mr.2.2.1 mr.2.1 mr.2.2.2.1 cp (zo_ic (zdcT 5 1 b) t nx))
    {C : zK} {F L n0 n1 n2 : Nat} {av : List zAV} {hh : zH} {r2 : Option zAV} {h2 : zH} {fb : Nat → Int32} (h1 : 0 ≤ (fb 1).toInt ∧ (fb 1).toInt ≤ 60) (h9 : fb 9 = 8 * fb 1)
    (hr0 : zrunv zprog zov0 n0 F L (zrset mr.2.2.2.2.2.2 hp (some (zo_cut (fun c => zcvK zMn0 c C)))) (fun _ _ => false) 0 (zargs 0 av, [], hh, 0, 0) = true)
    (hr1 : zrunv zprog zov0 n1 F L (zrset (zrset mr.2.2.2.2.2.2 cp (some (zo_ic (zdcT 5 1 false) t nx))) gp (some (zo_cut (fun c => zcvK zMn1 c C)))) (fun _ _ => false) hp C = true)
    (hr2 : zrunv zprog zov0 n2 F L (zrset mr.2.2.2.2.2.2 cp (some (zo_ic (zdcT 5 1 true) t nx))) (zcvR zMn2 r2 h2) hp C = true) : zKn l D vwCl tys (zwith o fb) z (zXX o z) zTs mr F L av hh r2 h2 := by
  refine zKn_loop (code' := mr.2.2.2.2.2.2) (n1 := 5) (n2 := 1) zXX_ok (fun f => zprog_ok (o := zwith o f) E) hm hhp hgp hcp hcp hne (fun x y => y ≤ x) hcmp
    (fun f k => f 1 = fb 1 ∧ f 9 = fb 9 ∧ (f 5).toInt + k = (fb 1).toInt ∧ 0 ≤ (f 5).toInt ∧ f 7 + 8 * Int32.ofNat k = fb 9)
    (fun p e R s m args below meth c0 Q ws f k hbc hbs CX _ pc sem hq => (zprog_ok (o := zwith o f) E mi mr hm).2 p e R s m args below meth c0 Q ws hbc hbs CX pc sem hq)
    (f0 := fun q => if q = 5 then 0 else if q = 7 then 0 else fb q) (k0 := (fb 1).toInt.toNat) (M0 := zMn0) ?_ ⟨rfl, rfl, ?_, ?_, ?_⟩ zov0_ok hr0 ?_ ?_
  · intro m hm
    simp only [zMn0, List.mem_cons, List.not_mem_nil, or_false] at hm
    rcases hm with rfl | rfl | rfl | rfl
    · show Int32.ofInt (.ofNat 0) = 0 + Int32.ofInt (.ofNat 0)
      rw [z0i]; rfl
    · show Int32.ofInt (.ofNat 0) = 0 + Int32.ofInt (.ofNat 0)
      rw [z0i]; rfl
    · rfl
    · rfl
  · show (0 : Int32).toInt + _ = _
    rw [show (0 : Int32).toInt = 0 by decide]
    omega
  · show 0 ≤ (0 : Int32).toInt
    decide
  · show (0 : Int32) + 8 * Int32.ofNat (fb 1).toInt.toNat = fb 9
    rw [zofNat_of h1.1, Int32.zero_add]
    exact h9.symm
  · rintro f k ⟨e1, e9, e5, p5, e7⟩
    have h5 := zinc_i (x := f 5) (n := (fb 1).toInt) (by omega) (by omega)
    refine ⟨?_, (fun q => if q = 5 then f 5 + 1 else if q = 7 then f 7 + 8 else f q), zMn1, zov0, n1, ⟨e1, e9, ?_, ?_, ?_⟩, ?_, zov0_ok, hr1⟩
    · rw [Int32.le_iff_toInt_le, e1]
      omega
    · show (f 5 + 1).toInt + _ = _
      omega
    · show 0 ≤ (f 5 + 1).toInt
      omega
    · show f 7 + 8 + 8 * Int32.ofNat k = fb 9
      rw [← e7, Int32.ofNat_add, Int32.mul_add, Int32.add_assoc, Int32.add_comm 8 (8 * Int32.ofNat k)]
      rfl
    · intro m hm
      simp only [zMn1, List.mem_cons, List.not_mem_nil, or_false] at hm
      rcases hm with rfl | rfl | rfl | rfl
      · show f 5 + Int32.ofInt (.ofNat 1) = f 5 + 1 + Int32.ofInt (.ofNat 0)
        rw [z0i, z1i, Int32.add_zero]
      · show f 7 + Int32.ofInt (.ofNat 8) = f 7 + 8 + Int32.ofInt (.ofNat 0)
        rw [z0i, z8i, Int32.add_zero]
      · rfl
      · rfl
  · rintro f ⟨e1, e9, e5, p5, e7⟩
    refine ⟨?_, zMn2, zov0, n2, ?_, zov0_ok, hr2⟩
    · rw [Int32.le_iff_toInt_le, e1]
      omega
    · intro m hm
      simp only [zMn2, List.mem_cons, List.not_mem_nil, or_false] at hm
      rcases hm with rfl | rfl | rfl
      · show f 7 + Int32.ofInt (.ofNat 0) = fb 9 + Int32.ofInt (.ofNat 0)
        rw [← e7]
        show f 7 + _ = f 7 + 8 * 0 + _
        rw [Int32.mul_zero, Int32.add_zero]
      · show f 1 + _ = fb 1 + _
        rw [e1]
      · show f 9 + _ = fb 9 + _
        rw [e9]
/-! THE LAW OVER FIVE INTS, the first three named -/
def zsc (b1 b2 : zI) : List zN := [(zall, some (0, .ofNat 0)), (b1, some (1, .ofNat 0)), (b2, some (2, .ofNat 0)), (zall, none), (zall, none)]
def zM19 : zMp := [((some 1, .ofNat 0), (1, .ofNat 0)), ((some 9, .ofNat 0), (9, .ofNat 0))]
theorem zM19_ok {f : Nat → Int32} : zMok zM19 f f := by
  intro m hm
  simp only [zM19, List.mem_cons, List.not_mem_nil, or_false] at hm
  rcases hm with rfl | rfl <;> rfl
theorem zfiveW {p : Program} {l : Launch} {e : Env} {s : State} {m : MethodId} {below : List Frame} {meth : Method} {c : Code} {b : Nat} {xs : Nat → Int32} {D : va_G} {tys : List (ClassId × FieldType)} {adr : Nat → Nat} {nm : String} (E : zEnv tys) (C : ∀ o : zO, o.1 = b → o.2.1 = adr → zCx p room_1 s m #[Value.ref b] meth c D vwCl tys s.heap.size (zXX o s.heap.size) zTs RL cL_law 8 nm) (hX : va_X b 5 xs s s.heap) (hbl : b < s.heap.size) (hr : meth.sig.returnType = ret) (hlocks : meth.locks = false) {ls : Array Slot} (hl : lv_has ls 8 [(0, .ref b)]) {jq b1 b2 : zI} (hj : zmi jq (xs 0 &&& 63)) (h1 : zmi b1 (xs 1)) (h2 : zmi b2 (xs 2)) {ov : zOv} {f : Nat → Int32} (f0 : f 0 = xs 0) (f1 : f 1 = xs 1) (f2 : f 2 = xs 2) (hov : zOvOk l D vwCl tys (b, adr, f) s.heap.size (zXX (b, adr, f) s.heap.size) zTs zprog ov) (hrun : zrunL ov (zsc b1 b2) jq = true) : W p l e room_1 s m #[Value.ref b] below meth c s.heap [] 0 0 (lw_Z below #[Value.ref b] s) (F0 m 0 ls []) := by
  refine zfiveV E C hX hbl hr hlocks hl (b, adr, f) rfl rfl f0 hov hj ?_ hrun
  intro i q hq
  match i, hq with
  | 0, hq => cases hq; exact ⟨by decide, z32 _, by show xs 0 = f 0 + Int32.ofInt (.ofNat 0); rw [f0, z0i]; exact (Int32.add_zero _).symm⟩
  | 1, hq => cases hq; exact ⟨by decide, h1, by show xs 1 = f 1 + Int32.ofInt (.ofNat 0); rw [f1, z0i]; exact (Int32.add_zero _).symm⟩
  | 2, hq => cases hq; exact ⟨by decide, h2, by show xs 2 = f 2 + Int32.ofInt (.ofNat 0); rw [f2, z0i]; exact (Int32.add_zero _).symm⟩
  | 3, hq => cases hq; exact ⟨by decide, z32 _, trivial⟩
  | 4, hq => cases hq; exact ⟨by decide, z32 _, trivial⟩
  | i + 5, hq => simp [zsc] at hq
/-- names: the script's first three, and so many GAPS -/
def zfn (xs : Nat → Int32) (g : Int32) (t : Nat) : Int32 := if t = 9 then g else xs t
