/-! YEARS BY A SEED: name 1 the seed, 2 how many, 5 the loop's own number, 7 the GAPS so far, 8 what was drawn last, 9 the GAPS at its end; 11 and 12 what comes of 8 -/
def zX1 (x : Int32) : Int32 := x * Int32.ofInt (.ofNat 1103515245)
def zX2 (x : Int32) : Int32 := zX1 x + Int32.ofInt (.ofNat 12345)
def zU1 (x : Int32) : Int32 := zush (zX2 x) (Int32.ofInt (.ofNat 16))
def zV1 (x : Int32) : Int32 := zU1 x - zU1 x / Int32.ofInt (.ofNat 4) * Int32.ofInt (.ofNat 4)
theorem zU1_ok (x : Int32) : zmi (.ofNat 0, .ofNat 65535) (zU1 x) := by
  have h := zi_ushr_ok (a := zall) (b := (.ofNat 16, .ofNat 16)) (x := zX2 x) (y := Int32.ofInt (.ofNat 16)) (z32 _) ⟨by decide +kernel, by decide +kernel⟩
  have e : zi_ushr zall (.ofNat 16, .ofNat 16) = (.ofNat 0, .ofNat 65535) := by decide +kernel
  rw [e] at h
  exact h
theorem zV1_ok (x : Int32) : zmi (.ofNat 0, .ofNat 3) (zV1 x) := by
  have h := zi_rem_ok (a := (.ofNat 0, .ofNat 65535)) (b := (.ofNat 4, .ofNat 4)) (x := zU1 x) (y := Int32.ofInt (.ofNat 4)) (zU1_ok x) ⟨by decide +kernel, by decide +kernel⟩
  have e : zi_rem (.ofNat 0, .ofNat 65535) (.ofNat 4, .ofNat 4) = (.ofNat 0, .ofNat 3) := by decide +kernel
  rw [e] at h
  exact h
def zGy : Nat → Int32 → Int32
  | 0, _ => 0
  | k + 1, x => (if (zV1 x).toInt ≤ 1 then 8 else 0) + zGy k (zX2 x)
def zMid (l : List (Nat × Int)) : zMp := l.map (fun q => ((some q.1, q.2), q))
theorem zMid_ok {l : List (Nat × Int)} {f : Nat → Int32} : zMok (zMid l) f f := by
  intro m hm
  obtain ⟨q, -, rfl⟩ := List.mem_map.mp hm
  rfl
def zIy : List (Nat × Int) := [(1, .ofNat 0), (2, .ofNat 0), (5, .ofNat 0), (7, .ofNat 0), (8, .ofNat 0), (9, .ofNat 0), (11, .ofNat 12345)]
def zMy0 : zMp := [((none, .ofNat 0), (5, .ofNat 0)), ((none, .ofNat 0), (7, .ofNat 0)), ((some 1, .ofNat 0), (8, .ofNat 0)), ((some 1, .ofNat 0), (1, .ofNat 0)), ((some 2, .ofNat 0), (2, .ofNat 0)), ((some 9, .ofNat 0), (9, .ofNat 0))]
def zMy1 (g : Int) : zMp := [((some 5, .ofNat 1), (5, .ofNat 0)), ((some 7, g), (7, .ofNat 0)), ((some 11, .ofNat 12345), (8, .ofNat 0)), ((some 1, .ofNat 0), (1, .ofNat 0)), ((some 2, .ofNat 0), (2, .ofNat 0)), ((some 9, .ofNat 0), (9, .ofNat 0))]
def zMy2 : zMp := [((some 7, .ofNat 0), (9, .ofNat 0)), ((some 1, .ofNat 0), (1, .ofNat 0)), ((some 2, .ofNat 0), (2, .ofNat 0)), ((some 9, .ofNat 0), (9, .ofNat 0))]
/-- what 8 was, and what it becomes -/
def zYf (f : Nat → Int32) (g : Int32) (q : Nat) : Int32 := if q = 5 then f 5 + 1 else if q = 7 then f 7 + g else if q = 8 then zX2 (f 8) else if q = 11 then zX1 (zX2 (f 8)) else if q = 12 then zU1 (zX2 (f 8)) else f q
theorem zMy1_ok {f : Nat → Int32} {g : Int} (h : f 11 = zX1 (f 8)) : zMok (zMy1 g) f (zYf f (Int32.ofInt g)) := by
  intro m hm
  simp only [zMy1, List.mem_cons, List.not_mem_nil, or_false] at hm
  rcases hm with rfl | rfl | rfl | rfl | rfl | rfl
  · show f 5 + Int32.ofInt (.ofNat 1) = f 5 + 1 + Int32.ofInt (.ofNat 0)
    rw [z0i, z1i, Int32.add_zero]
  · show f 7 + Int32.ofInt g = f 7 + Int32.ofInt g + Int32.ofInt (.ofNat 0)
    rw [z0i, Int32.add_zero]
  · show f 11 + Int32.ofInt (.ofNat 12345) = zX2 (f 8) + Int32.ofInt (.ofNat 0)
    rw [z0i, Int32.add_zero, h]
    rfl
  · rfl
  · rfl
  · rfl
theorem zKnY {l : Launch} {D : va_G} {tys : List (ClassId × FieldType)} {o : zO} {z : Nat} (E : zEnv tys) {mi : Nat} {mr : zM} (hm : zget zprog mi = some mr) {hp cp gp t nx : Nat} {y1 y2 : Option zSem} (hhp : zrget mr.2.2.2.2.2.2 hp = some y2) (hgp : zrget mr.2.2.2.2.2.2 gp = some (some (zo_goto hp))) (hcp : zrget mr.2.2.2.2.2.2 cp = some y1) (hne : gp ≠ cp)
    (hcmp : ∀ (p : Program) (e : Env) (R : Room) (s : State) (m : MethodId) (args : Array Value) (below : List Frame) (meth : Method) (c0 : Code) (Q : State → Prop) (ws : va_W) (f : Nat → Int32) (b : Bool), zCx p R s m args meth c0 D vwCl tys z (zXX o z) zTs mr.1.cls mr.2.1 mr.2.2.1 mr.1.name → zdec (f 2 ≤ f 5) (some b) → zOp p l e R s m args below meth c0 Q D vwCl tys (zwith o f) z (zXX o z) zTs zprog ws mr.2.2.1 mr.2.1 mr.2.2.2.1 cp (zo_ic (zdcT 5 2 b) t nx))
    {C : zK} {F L n0 n1 n2 : Nat} {av : List zAV} {hh : zH} {r2 : Option zAV} {h2 : zH} {fb : Nat → Int32} (h1 : 0 ≤ (fb 2).toInt ∧ (fb 2).toInt ≤ 60) (h9 : fb 9 = zGy (fb 2).toInt.toNat (fb 1)) {ova ovb : zOv}
    (hova : ∀ f : Nat → Int32, f 11 = zX1 (f 8) → f 12 = zU1 (f 8) → zmi (.ofNat 0, .ofNat 1) (zV1 (f 8)) → zOvOk l D vwCl tys (zwith o f) z (zXX o z) zTs zprog ova)
    (hovb : ∀ f : Nat → Int32, f 11 = zX1 (f 8) → f 12 = zU1 (f 8) → zmi (.ofNat 2, .ofNat 3) (zV1 (f 8)) → zOvOk l D vwCl tys (zwith o f) z (zXX o z) zTs zprog ovb)
    (hr0 : zrunv zprog zov0 n0 F L (zrset mr.2.2.2.2.2.2 hp (some (zo_cut (fun c => zcvK zMy0 c C)))) (fun _ _ => false) 0 (zargs 0 av, [], hh, 0, 0) = true)
    (hra : zrunv zprog ova n1 F L (zrset (zrset mr.2.2.2.2.2.2 cp (some (zo_ic (zdcT 5 2 false) t nx))) gp (some (zo_cut (fun c => zcvK (zMy1 (.ofNat 8)) c C)))) (fun _ _ => false) hp C = true)
    (hrb : zrunv zprog ovb n1 F L (zrset (zrset mr.2.2.2.2.2.2 cp (some (zo_ic (zdcT 5 2 false) t nx))) gp (some (zo_cut (fun c => zcvK (zMy1 (.ofNat 0)) c C)))) (fun _ _ => false) hp C = true)
    (hr2 : zrunv zprog zov0 n2 F L (zrset mr.2.2.2.2.2.2 cp (some (zo_ic (zdcT 5 2 true) t nx))) (zcvR zMy2 r2 h2) hp C = true) : zKn l D vwCl tys (zwith o fb) z (zXX o z) zTs mr F L av hh r2 h2 := by
  refine zKn_loop (code' := mr.2.2.2.2.2.2) (n1 := 5) (n2 := 2) zXX_ok (fun f => zprog_ok (o := zwith o f) E) hm hhp hgp hcp hcp hne (fun x y => y ≤ x) hcmp
    (fun f k => f 1 = fb 1 ∧ f 2 = fb 2 ∧ f 9 = fb 9 ∧ (f 5).toInt + k = (fb 2).toInt ∧ 0 ≤ (f 5).toInt ∧ f 7 + zGy k (f 8) = fb 9 ∧ f 11 = zX1 (f 8) ∧ f 12 = zU1 (f 8))
    (fun p e R s m args below meth c0 Q ws f k hbc hbs CX _ pc sem hq => (zprog_ok (o := zwith o f) E mi mr hm).2 p e R s m args below meth c0 Q ws hbc hbs CX pc sem hq)
    (f0 := fun q => if q = 5 then 0 else if q = 7 then 0 else if q = 8 then fb 1 else if q = 11 then zX1 (fb 1) else if q = 12 then zU1 (fb 1) else fb q) (k0 := (fb 2).toInt.toNat) (M0 := zMy0) ?_ ⟨rfl, rfl, rfl, ?_, ?_, ?_, rfl, rfl⟩ zov0_ok hr0 ?_ ?_
  · intro m hm
    simp only [zMy0, List.mem_cons, List.not_mem_nil, or_false] at hm
    rcases hm with rfl | rfl | rfl | rfl | rfl | rfl
    · show Int32.ofInt (.ofNat 0) = 0 + Int32.ofInt (.ofNat 0)
      rw [z0i]; rfl
    · show Int32.ofInt (.ofNat 0) = 0 + Int32.ofInt (.ofNat 0)
      rw [z0i]; rfl
    · rfl
    · rfl
    · rfl
    · rfl
  · show (0 : Int32).toInt + _ = _
    rw [show (0 : Int32).toInt = 0 by decide]
    omega
  · show 0 ≤ (0 : Int32).toInt
    decide
  · show (0 : Int32) + zGy (fb 2).toInt.toNat (fb 1) = fb 9
    rw [Int32.zero_add]
    exact h9.symm
  · rintro f k ⟨e1, e2, e9, e5, p5, e7, e11, e12⟩
    have h5 := zinc_i (x := f 5) (n := (fb 2).toInt) (by omega) (by omega)
    have hP : ¬ f 2 ≤ f 5 := by
      rw [Int32.le_iff_toInt_le, e2]
      omega
    have hi1 : (f 5 + 1).toInt + k = (fb 2).toInt := by omega
    have hi2 : 0 ≤ (f 5 + 1).toInt := by omega
    obtain ⟨v1, v2⟩ := zV1_ok (f 8)
    have v1 : 0 ≤ (zV1 (f 8)).toInt := v1
    have v2 : (zV1 (f 8)).toInt ≤ 3 := v2
    by_cases hv : (zV1 (f 8)).toInt ≤ 1
    · refine ⟨hP, zYf f (Int32.ofInt (.ofNat 8)), zMy1 (.ofNat 8), ova, n1, ⟨e1, e2, e9, hi1, hi2, ?_, rfl, rfl⟩, zMy1_ok e11, hova f e11 e12 ⟨v1, hv⟩, hra⟩
      show f 7 + Int32.ofInt (.ofNat 8) + zGy k (zX2 (f 8)) = fb 9
      rw [← e7, zGy, if_pos hv, z8i, Int32.add_assoc]
    · refine ⟨hP, zYf f (Int32.ofInt (.ofNat 0)), zMy1 (.ofNat 0), ovb, n1, ⟨e1, e2, e9, hi1, hi2, ?_, rfl, rfl⟩, zMy1_ok e11, hovb f e11 e12 ⟨by show (2 : Int) ≤ _; omega, v2⟩, hrb⟩
      show f 7 + Int32.ofInt (.ofNat 0) + zGy k (zX2 (f 8)) = fb 9
      rw [← e7, zGy, if_neg hv, z0i, Int32.add_assoc]
  · rintro f ⟨e1, e2, e9, e5, p5, e7, e11, e12⟩
    refine ⟨?_, zMy2, zov0, n2, ?_, zov0_ok, hr2⟩
    · rw [Int32.le_iff_toInt_le, e2]
      omega
    · intro m hm
      simp only [zMy2, List.mem_cons, List.not_mem_nil, or_false] at hm
      rcases hm with rfl | rfl | rfl | rfl
      · show f 7 + Int32.ofInt (.ofNat 0) = fb 9 + Int32.ofInt (.ofNat 0)
        rw [← e7]
        show f 7 + _ = f 7 + 0 + _
        rw [Int32.add_zero]
      · show f 1 + _ = fb 1 + _
        rw [e1]
      · show f 2 + _ = fb 2 + _
        rw [e2]
      · show f 9 + _ = fb 9 + _
        rw [e9]
/-- the draw itself -/
theorem zKnD {l : Launch} {D : va_G} {tys : List (ClassId × FieldType)} {o : zO} {z : Nat} (E : zEnv tys) {mi : Nat} {mr : zM} (hm : zget zprog mi = some mr) {p1 p2 p3 : Nat} {y1 y2 y3 : Option zSem} (hp1 : zrget mr.2.2.2.2.2.2 p1 = some y1) (hp2 : zrget mr.2.2.2.2.2.2 p2 = some y2) (hp3 : zrget mr.2.2.2.2.2.2 p3 = some y3) (h12 : p2 ≠ p1) (h13 : p3 ≠ p1) (h23 : p3 ≠ p2) (d1 : decode mr.2.1 p1 = .ok (.imul, 1)) (d2 : decode mr.2.1 p2 = .ok (.iushr, 1)) (d3 : decode mr.2.1 p3 = .ok (.irem, 1)) {jq : zI} {av : List zAV} {hh : zH} {r2 : Option zAV} {h2 : zH} {n F L : Nat}
    (hrun : zrunv zprog zov0 n F L (zrset (zrset (zrset mr.2.2.2.2.2.2 p1 (some (zo_k2 (p1 + 1) (8, .ofNat 0) (.ofNat 1103515245) (zall, some (11, .ofNat 0))))) p2 (some (zo_k2 (p2 + 1) (11, .ofNat 12345) (.ofNat 16) ((.ofNat 0, .ofNat 65535), some (12, .ofNat 0))))) p3 (some (zo_k2 (p3 + 1) (12, .ofNat 0) (.ofNat 4) (jq, none)))) (zcvR (zMid zIy) r2 h2) 0 (zargs 0 av, [], hh, 0, 0) = true)
    {f : Nat → Int32} (h11 : f 11 = zX1 (f 8)) (hf12 : f 12 = zU1 (f 8)) (hv : zmi jq (zV1 (f 8))) : zKn l D vwCl tys (zwith o f) z (zXX o z) zTs mr F L av hh r2 h2 := by
  refine zKn_runP zXX_ok (zprog_ok (o := zwith o f) E) zov0_ok zMid_ok ?_ hrun
  intro p e R s m args below meth c0 Q ws hbc hbs C
  have h0 := (zprog_ok (l := l) (o := zwith o f) E mi mr hm).2 p e R s m args below meth c0 Q ws hbc hbs C
  have q1 := zpt (P := fun pc sem => zOp p l e R s m args below meth c0 Q D vwCl tys (zwith o f) z (zXX o z) zTs zprog ws mr.2.2.1 mr.2.1 mr.2.2.2.1 pc sem) h0 hp1 (sm := zo_k2 (p1 + 1) (8, .ofNat 0) (.ofNat 1103515245) (zall, some (11, .ofNat 0))) (zk_k2 C (g := fun x y => x * y) (by
    refine ⟨z32 _, ?_⟩
    show (f 8 + Int32.ofInt (.ofNat 0)) * Int32.ofInt (.ofNat 1103515245) = f 11 + Int32.ofInt (.ofNat 0)
    rw [z0i, Int32.add_zero, Int32.add_zero, h11]
    rfl) (fun _ _ _ _ _ _ _ k => lv_imul C.1 C.2.1 d1 k))
  have hp2' : zrget (zrset mr.2.2.2.2.2.2 p1 (some (zo_k2 (p1 + 1) (8, .ofNat 0) (.ofNat 1103515245) (zall, some (11, .ofNat 0))))) p2 = some y2 := by rw [zrget_set hp1, if_neg h12]; exact hp2
  have q2 := zpt (P := fun pc sem => zOp p l e R s m args below meth c0 Q D vwCl tys (zwith o f) z (zXX o z) zTs zprog ws mr.2.2.1 mr.2.1 mr.2.2.2.1 pc sem) q1 hp2' (sm := zo_k2 (p2 + 1) (11, .ofNat 12345) (.ofNat 16) ((.ofNat 0, .ofNat 65535), some (12, .ofNat 0))) (zk_k2 C (g := zush) (by
    have e : zush (f 11 + Int32.ofInt (.ofNat 12345)) (Int32.ofInt (.ofNat 16)) = zU1 (f 8) := by rw [h11]; rfl
    refine ⟨?_, ?_⟩
    · show zmi (.ofNat 0, .ofNat 65535) (zush (f 11 + Int32.ofInt (.ofNat 12345)) (Int32.ofInt (.ofNat 16)))
      rw [e]
      exact zU1_ok _
    · show zush (f 11 + Int32.ofInt (.ofNat 12345)) (Int32.ofInt (.ofNat 16)) = f 12 + Int32.ofInt (.ofNat 0)
      rw [e, z0i, Int32.add_zero, hf12]) (fun _ _ _ _ _ _ _ k => lv_iushr C.1 C.2.1 d2 rfl k))
  have hp3' : zrget (zrset (zrset mr.2.2.2.2.2.2 p1 (some (zo_k2 (p1 + 1) (8, .ofNat 0) (.ofNat 1103515245) (zall, some (11, .ofNat 0))))) p2 (some (zo_k2 (p2 + 1) (11, .ofNat 12345) (.ofNat 16) ((.ofNat 0, .ofNat 65535), some (12, .ofNat 0))))) p3 = some y3 := by rw [zrget_set hp2', if_neg h23, zrget_set hp1, if_neg h13]; exact hp3
  exact zpt (P := fun pc sem => zOp p l e R s m args below meth c0 Q D vwCl tys (zwith o f) z (zXX o z) zTs zprog ws mr.2.2.1 mr.2.1 mr.2.2.2.1 pc sem) q2 hp3' (zk_k2 C (g := fun x y => x - x / y * y) (by
    have e : f 12 + Int32.ofInt (.ofNat 0) = zU1 (f 8) := by rw [z0i, Int32.add_zero, hf12]
    refine ⟨?_, trivial⟩
    show zmi jq ((f 12 + Int32.ofInt (.ofNat 0)) - (f 12 + Int32.ofInt (.ofNat 0)) / Int32.ofInt (.ofNat 4) * Int32.ofInt (.ofNat 4))
    rw [e]
    exact hv) (fun _ _ _ _ _ _ _ k => lv_irem C.1 C.2.1 d3 (by decide +kernel) k))
