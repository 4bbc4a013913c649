/-! CALLS ON CONSTANT TEXTS: indexOf(sign), charAt(place), length() by tables -/
/-- a constant text's call on a local: what it answers, by a table -/
def xi_tx (nx n : Nat) (hi : Int32) (g : Int32 → Int32) : xq_I := fun _ L st S => match L[n]? with
  | some (.int x) => (match Nat.ble (xq_ct st) 8 with
    | true => if 0 ≤ x ∧ x ≤ hi then some (.inl (nx, L, .int (g x) :: st, S)) else none
    | false => none)
  | _ => none
/-- a constant text's length -/
def xi_tl (nx : Nat) (v : Int32) : xq_I := fun _ L st S => match Nat.ble (xq_ct st) 8 with
  | true => some (.inl (nx, L, .int v :: st, S))
  | false => none
/-- the places of the seven things -/
def xt_ix (x : Int32) : Int32 := if x = 104 then 0 else if x = 116 then 1 else if x = 119 then 2 else if x = 109 then 3 else if x = 105 then 4 else if x = 110 then 5 else if x = 99 then 6 else -1
/-- the signs of the rule at first -/
def xt_at (x : Int32) : Int32 := if x = 0 then 116 else if x = 1 then 43 else if x = 2 then 119 else if x = 3 then 43 else if x = 4 then 40 else if x = 5 then 104 else if x = 6 then 62 else if x = 7 then 53 else if x = 8 then 41 else if x = 9 then 42 else 57
def xq_Tx (l : Launch) (D : va_G) (cl : List vw_C) (tys : List (ClassId × FieldType)) (z : Nat) (X : State → Heap → Prop) (Ts : List Cond) (b : Nat → Nat) (mr : zM) (t : Nat) (vs : List Value) (v : Int32) : Prop := ∀ (fr lo : Nat), 10 ≤ fr → 1500 ≤ lo → ∀ (S : xq_S) (ws : va_W), xq_r b cl tys S ws → Met l mr.1 (.code mr.1 mr.2.1 mr.2.2.1 mr.2.2.2.1 :: Ts) { frames := fr, cells := mr.2.2.2.2.1, slots := mr.2.2.2.2.2.1, locals := lo } (va_Pc (.ref t :: vs) (xq_St D cl tys z X b S ws)) (xq_Q D cl tys z b (some (.int v), S)) mr.2.2.2.2.1 mr.2.2.2.2.2.1 (zA z)
section XQT
variable {p : Program} {l : Launch} {e : Env} {R : Room} {s : State} {m : MethodId} {args : Array Value} {below : List Frame} {meth : Method} {c0 : Code} {Q : State → Prop} {D : va_G} {cl : List vw_C} {tys : List (ClassId × FieldType)} {o : zO} {z : Nat} {X : State → Heap → Prop} {Ts : List Cond} {prog : List zM} {nL : Nat} {own : String} {cc : ByteArray} {ret : Option FieldType} {nm : String}
variable {b : Nat → Nat}
theorem xq_tcall (C : zCx p R s m args meth c0 D cl tys z X Ts own cc nL nm) (hX : zXok X z) (hgood : ∀ w ∈ Ts, goodWord w = true) {len : List Nat} {byt : List (List Int)} (hT : ∀ U H, X U H → zTx o z len byt U H) {pc n idx i : Nat} {mr : zM} (hz : mr.2.2.2.2.1 = 0 ∧ mr.2.2.2.2.2.1 = 0 ∧ mr.2.2.1 ≤ 40) (hcls : mr.1.cls = "java/lang/String") (hcode : Cond.code mr.1 mr.2.1 mr.2.2.1 mr.2.2.2.1 ∈ Ts) (hl : Cond.methodLink own idx mr.1 ∈ Ts) (hin : Cond.instanceMethod mr.1 ∈ Ts) (hsel : Cond.selects mr.1.cls mr.1 mr.1 ∈ Ts) (hini : Cond.initialized mr.1.cls ∈ Ts) (hpar : zPar mr.1 n) (hd : decode cc pc = .ok (.invokevirtual idx, 3)) (hi : i < 2) (hR : 12 ≤ R.frames ∧ 2000 ≤ R.locals) {vs : List Value} (hlen : vs.length = n) {v : Int32} (hMt : xq_Tx l D cl tys z X Ts b mr (o.2.1 (2 * i)) vs v) {S : xq_S} {ws : va_W} {H : Heap} {locs : List Loc} (hM : xq_M b D cl tys z s.heap S ws H locs) {ls : Array Slot} (hls : ls.size = nL) {rest : List Value} (hc : xq_ct rest ≤ 8) (kk : ∀ (ws' : va_W) (H1 : Heap) (locs1 : List Loc), xq_M b D cl tys z s.heap S ws' H1 locs1 → W p l e R s m args below meth c0 H1 locs1 0 0 Q (F0 m (pc + 3) ls (.int v :: rest.map (xq_v b)))) : W p l e R s m args below meth c0 H locs 0 0 Q (F0 m pc ls (vs.reverse ++ .ref (o.2.1 (2 * i)) :: rest.map (xq_v b))) := by
  obtain ⟨z1, z2, z3⟩ := hz
  have hMet := hMt (R.frames - 1) (R.locals - (19 + mr.2.2.1)) (by omega) (by omega) S ws hM.1
  obtain ⟨cell, g1, g2, g3, -⟩ := (hT s s.heap C.2.2.2.2.2.2.2.1 i hi).1.kept hM.2.2.2.2.1
  have hct := xq_ct_ok (b := b) rest
  have hrun : va_Run p l e R s m args below meth c0 H locs 0 0 mr.2.2.2.2.1 mr.2.2.2.2.2.1 (F0 m pc ls (vs.reverse ++ .ref (o.2.1 (2 * i)) :: rest.map (xq_v b))) (rest.map (xq_v b)) (xq_Q D cl tys z b (some (.int v), S) (Value.ref (o.2.1 (2 * i)) :: vs).toArray) (zA z) := va_runV (As := vs) ⟨C.1, C.2.1, C.2.2.1, C.2.2.2.1, C.2.2.2.2.1⟩ hMet ⟨callB_of n C.2.2.2.2.1 (zgood hgood hcode) rfl rfl rfl (C.2.2.2.2.1 _ hini) (C.2.2.2.2.1 _ hl) hpar ⟨(by show R.frames - 1 + 1 ≤ R.frames; omega), (by show 8 + (mr.2.2.1 + 11) + (R.locals - (19 + mr.2.2.1)) ≤ R.locals; omega)⟩, C.2.2.2.2.1 _ hin, C.2.2.2.2.1 _ hsel⟩ ⟨xq_blind hX, ⟨cell, g1, g2, by rw [hcls]; exact g3⟩, fun U hU hW => ⟨rfl, hM.1, by rw [hU]; exact hM.2.1, hM.2.2.1, va_K.moved hW.alike C.2.2.2.2.2.1, by rw [hU]; exact hX.2.1 s U H hW (hX.2.2 s s.heap H C.2.2.2.2.2.2.2.2.1 (fun q hq => hM.2.2.2.2.1 q (Nat.lt_of_lt_of_le hq C.2.2.2.2.2.2.2.2.1) (Nat.not_le.mpr hq)) C.2.2.2.2.2.2.2.1), by rw [hU]; exact Nat.le_trans C.2.2.2.2.2.2.2.2.1 hM.2.2.2.1⟩⟩ rfl (by simpa using hlen) hls rfl (lv_room (by rw [hct]; exact hc)) hd ⟨by rw [z1]; exact Nat.zero_le _, by rw [z2]; exact Nat.zero_le _⟩
  refine xq_call_k hrun hM.2.2.2 (fun ws' H1 locs1 q1 q2 q3 q4 => ?_)
  rw [z1, z2]
  exact kk ws' H1 locs1 ⟨q1, q2, q3, q4⟩
theorem xk_tx (C : zCx p R s m args meth c0 D cl tys z X Ts own cc nL nm) (hX : zXok X z) (hgood : ∀ w ∈ Ts, goodWord w = true) {len : List Nat} {byt : List (List Int)} (hT : ∀ U H, X U H → zTx o z len byt U H) {pc pc2 n idx1 idx i : Nat} {tx : String} {hi : Int32} {g : Int32 → Int32} {mr : zM} (hd1 : decode cc pc = .ok (.ldc idx1, 2)) (hR1 : ∀ U H, X U H → vk_R own idx1 tx (o.2.1 (2 * i)) U) (hii : i < 2) (load : ∀ (H : Heap) (locs : List Loc) (ls : Array Slot) (rest : List Value) (x : Int32), 0 ≤ x ∧ x ≤ hi → ls[n]? = some (.val (.int x)) → W p l e R s m args below meth c0 H locs 0 0 Q (F0 m pc2 ls (.int x :: rest)) → W p l e R s m args below meth c0 H locs 0 0 Q (F0 m (pc + 2) ls rest)) (hz : mr.2.2.2.2.1 = 0 ∧ mr.2.2.2.2.2.1 = 0 ∧ mr.2.2.1 ≤ 40) (hcls : mr.1.cls = "java/lang/String") (hcode : Cond.code mr.1 mr.2.1 mr.2.2.1 mr.2.2.2.1 ∈ Ts) (hl : Cond.methodLink own idx mr.1 ∈ Ts) (hin : Cond.instanceMethod mr.1 ∈ Ts) (hsel : Cond.selects mr.1.cls mr.1 mr.1 ∈ Ts) (hini : Cond.initialized mr.1.cls ∈ Ts) (hpar : zPar mr.1 1) (hd : decode cc pc2 = .ok (.invokevirtual idx, 3)) (hMt : ∀ x : Int32, 0 ≤ x ∧ x ≤ hi → xq_Tx l D cl tys z X Ts b mr (o.2.1 (2 * i)) [.int x] (g x)) : xq_Op p l e R s m args below meth c0 Q D cl tys z X Ts prog nL cc ret b pc (xi_tx (pc2 + 3) n hi g) := by
  intro call L st S x hco hs hx ls ws H locs hL hM
  unfold xi_tx at hs
  split at hs
  · rename_i y hy
    split at hs
    · rename_i hct
      have hct := Nat.le_of_ble_eq_true hct
      split at hs
      · rename_i h01
        cases hs
        have hl1 : ls[n]? = some (.val (.int y)) := hL.2.2 n _ hy (by intro q; cases q)
        exact va_ldcS C.1 C.2.1 C.2.2.2.1 (hR1 _ _ C.2.2.2.2.2.2.2.1) hd1 (load _ _ _ _ y h01 hl1 (xq_tcall (vs := [.int y]) C hX hgood hT hz hcls hcode hl hin hsel hini hpar hd hii hco.1 rfl (hMt y h01) hM hL.1 hct (fun ws' H1 locs1 hM' => hx ls ws' H1 locs1 hL hM')))
      · cases hs
    · cases hs
  · cases hs
theorem xk_tl (C : zCx p R s m args meth c0 D cl tys z X Ts own cc nL nm) (hX : zXok X z) (hgood : ∀ w ∈ Ts, goodWord w = true) {len : List Nat} {byt : List (List Int)} (hT : ∀ U H, X U H → zTx o z len byt U H) {pc idx1 idx i : Nat} {tx : String} {v : Int32} {mr : zM} (hd1 : decode cc pc = .ok (.ldc idx1, 2)) (hR1 : ∀ U H, X U H → vk_R own idx1 tx (o.2.1 (2 * i)) U) (hii : i < 2) (hz : mr.2.2.2.2.1 = 0 ∧ mr.2.2.2.2.2.1 = 0 ∧ mr.2.2.1 ≤ 40) (hcls : mr.1.cls = "java/lang/String") (hcode : Cond.code mr.1 mr.2.1 mr.2.2.1 mr.2.2.2.1 ∈ Ts) (hl : Cond.methodLink own idx mr.1 ∈ Ts) (hin : Cond.instanceMethod mr.1 ∈ Ts) (hsel : Cond.selects mr.1.cls mr.1 mr.1 ∈ Ts) (hini : Cond.initialized mr.1.cls ∈ Ts) (hpar : zPar mr.1 0) (hd : decode cc (pc + 2) = .ok (.invokevirtual idx, 3)) (hMt : xq_Tx l D cl tys z X Ts b mr (o.2.1 (2 * i)) [] v) : xq_Op p l e R s m args below meth c0 Q D cl tys z X Ts prog nL cc ret b pc (xi_tl (pc + 5) v) := by
  intro call L st S x hco hs hx ls ws H locs hL hM
  unfold xi_tl at hs
  split at hs
  · rename_i hct
    have hct := Nat.le_of_ble_eq_true hct
    cases hs
    exact va_ldcS C.1 C.2.1 C.2.2.2.1 (hR1 _ _ C.2.2.2.2.2.2.2.1) hd1 (xq_tcall (vs := []) C hX hgood hT hz hcls hcode hl hin hsel hini hpar hd hii hco.1 rfl hMt hM hL.1 hct (fun ws' H1 locs1 hM' => hx ls ws' H1 locs1 hL hM'))
  · cases hs
end XQT
theorem xtx_up {o : zO} {z z' : Nat} {U : State} {H : Heap} (hz : z ≤ z') (h : zXX o z U H) : zXX o z' U H := by
  have hA : ∀ q, zA z' q → zA z q := fun q hq => Nat.le_trans hz hq
  exact ⟨h.1, h.2.1, fun i hi => ⟨(h.2.2.1 i hi).1.narrow hA, (h.2.2.1 i hi).2.1.narrow hA, (h.2.2.1 i hi).2.2.1.narrow hA, by obtain ⟨n, bs, q1, q2, q3, q4, q5, q6⟩ := (h.2.2.1 i hi).2.2.2; exact ⟨n, bs, q1, q2, q3, q4, q5, q6.narrow hA⟩⟩, h.2.2.2.1, h.2.2.2.2.1, h.2.2.2.2.2.1.narrow hA, h.2.2.2.2.2.2.narrow hA⟩
noncomputable def xtx_rt (v : Int) : zRt := fun r _ => match r with
  | some (.inl q) => zle v q.1.1 && zle q.1.2 v
  | _ => false
noncomputable def xtx_ck (mr : zM) (as : List zAV) (v : Int) : Bool := Nat.ble (zcats as) mr.2.2.1 && (Nat.ble (zcats as) 700 && zrun zprog 5000 10 1500 mr.2.2.2.2.2.2 (xtx_rt v) 0 (zargs 0 as, [], (0, [], 0), 0, 0))
theorem xq_tx_met {l : Launch} {D : va_G} {tys : List (ClassId × FieldType)} {o : zO} {z : Nat} {b : Nat → Nat} (E : zEnv tys) {mi : Nat} {mr : zM} (hm : zget zprog mi = some mr) {as : List zAV} {t : Nat} {vs : List Value} {v : Int32} (hck : xtx_ck mr as v.toInt = true) (hvs : zr2 (zgH o (zad [])) as (.ref t :: vs)) : xq_Tx l D vwCl tys z (zXX o z) zTs b mr t vs v := by
  intro fr lo hfr hlo S ws hr
  unfold xtx_ck at hck
  rw [Bool.and_eq_true, Bool.and_eq_true] at hck
  obtain ⟨c1, c2, hrun⟩ := hck
  have c1 := Nat.le_of_ble_eq_true c1
  have c2 := Nat.le_of_ble_eq_true c2
  obtain ⟨hy, -⟩ := zprog_ok (l := l) (D := D) (o := o) (z := z) E mi mr hm
  refine Met.ofW (cc := mr.2.1) (maxL := mr.2.2.1) (ret := mr.2.2.2.1) hy rfl ?_
  intro p' e' s' m' args' below' meth' c' s₁ B hml hv
  obtain ⟨rfl, v1, v2, v3, v4, v5, v6⟩ := hv
  have hts := atoms_spec B.pre
  have CX' : zCx p' { frames := fr, cells := mr.2.2.2.2.1, slots := mr.2.2.2.2.2.1, locals := lo } s' m' (Value.ref t :: vs).toArray meth' c' D vwCl tys s'.heap.size (zXX o s'.heap.size) zTs mr.1.cls mr.2.1 mr.2.2.1 mr.1.name := ⟨B.exec, B.bytes, hml, findClass_of_methodNamed B.named, fun w hw => hts w (List.mem_cons_of_mem _ hw), v4, (name_of_methodNamed B.named B.method).1, xtx_up v6 v5, Nat.le_refl _, by show 1 ≤ fr; omega, by show 200 ≤ lo; omega⟩
  have hl := lv_entry (.ref t :: vs) (n := mr.2.2.1) (by rw [zsl_len hvs]; exact c1)
  rw [lg_entry_eq]
  refine zrun_ok (o := zwith o o.2.2) (z := s'.heap.size) (X := zXX o s'.heap.size) (prog := zprog) zXX_ok (zprog_ok (o := zwith o o.2.2) E) 5000 p' e' { frames := fr, cells := mr.2.2.2.2.1, slots := mr.2.2.2.2.2.1, locals := lo } s' m' (Value.ref t :: vs).toArray below' meth' c' _ [] mr.2.2.1 mr.2.1 mr.2.2.2.1 mr.2.2.2.2.2.2 (fun pc sem hp => (zprog_ok (o := zwith o o.2.2) (z := s'.heap.size) E mi mr hm).2 p' e' _ s' m' _ below' meth' c' _ [] rfl rfl CX' pc sem hp) 10 1500 hfr hlo (xtx_rt v.toInt) ?_ 0 _ hrun (zent o.2.2 (.ref t :: vs)) (zent_ag _ _) _ [] s'.heap [] [] ⟨⟨_, hl, zargs_ok (g := o.2.2) hvs (by omega) _ (fun n hn => zent_F _ _ (by omega))⟩, trivial, ⟨rfl, fun k hk => absurd hk (Nat.not_lt_zero k)⟩, fun k q h => by simp at h, ⟨fun i j p q h => by simp at h, fun k q h => by simp at h⟩, va_S.rf, zcg_rf⟩
  intro pc ls w r h H locs ws' cells slots q1 q2 q3 q4 q5 q6 q7 q8 q9 q10
  unfold xtx_rt at q10
  split at q10
  · rename_i q
    rw [Bool.and_eq_true, zle_iff, zle_iff] at q10
    cases w with
    | none => exact q1.elim
    | some w =>
      obtain ⟨x, rfl, hx⟩ := q1
      obtain ⟨hx1, hx2⟩ := hx
      have ex : x = v := by
        apply Int32.toInt_inj.mp
        omega
      subst ex
      have hS : va_S (zA z) s'.heap H locs := ⟨q5.1, fun q h1 h2 => q5.2.1 q h1 (Nat.not_le.mpr h1), fun l hl => Nat.le_trans v6 (q5.2.2 l hl)⟩
      have hP : va_P D vwCl ws H := v2.kept (fun k q hk => q5.2.1 q.1 (v2 k q hk).lt (Nat.not_le.mpr (v2 k q hk).lt))
      have hq : ∀ t1 : State, t1.heap = H → s'.WarmedH t1.vm → xq_Q D vwCl tys z b (some (.int x), S) (Value.ref t :: vs).toArray s' (.returned (some (.int x))) t1 := fun t1 ht _ => ⟨⟨rfl, ws, v1, by rw [ht]; exact hP, v3⟩, hS.F ht⟩
      refine W.widen (k := mr.2.2.2.2.1) (n := mr.2.2.2.2.2.1) q7 q8 ?_
      rcases q9 with ⟨y, ty, ey, e1, e2, e3⟩ | ⟨y, ey, e1, e3⟩ | ⟨y, rt, ey, e1, e2, e3⟩
      · cases ey
        exact W.zret B.exec B.bytes (B.returns.trans e1) e2 hq hS.2.2 e3 B.notSynchronized
      · cases ey
      · cases ey
  · cases q10
theorem xtx_c0 : ∀ n : Nat, n < 256 → ((Int32.ofNat n).toUInt32 % 65536).toInt32 = Int32.ofNat n := by decide +kernel
theorem xtx_c {x : Int32} (h : 0 ≤ x ∧ x ≤ 255) : (x.toUInt32 % 65536).toInt32 = x := by
  obtain ⟨h1, h2⟩ := h
  have h1 : (0 : Int) ≤ x.toInt := Int32.le_iff_toInt_le.mp h1
  have h2 : x.toInt ≤ 255 := Int32.le_iff_toInt_le.mp h2
  have e : x = Int32.ofNat x.toInt.toNat := by
    apply Int32.toInt_inj.mp
    rw [Int32.toInt_ofNat_of_lt (by omega)]
    omega
  rw [e]
  exact xtx_c0 _ (by omega)
/-- boxes of signs, of places -/
noncomputable def xtx_bx (k : Nat) (q : Int × Int) : List zAV := [.inr (.inr (.inr (.inr k))), .inl ((q.1, q.2), none)]
theorem xtx_in {o : zO} {k : Nat} {q : Int × Int} {x : Int32} (hk : k < 100) (h1 : q.1 ≤ x.toInt) (h2 : x.toInt ≤ q.2) : zr2 (zgH o (zad [])) (xtx_bx k q) [.ref (o.2.1 k), .int x] := ⟨⟨fun _ => rfl, Or.inr ⟨_, rfl⟩⟩, ⟨x, rfl, h1, h2⟩, trivial⟩
noncomputable def xtx_L : List ((Int × Int) × Int) := [((0, 98), -1), ((99, 99), 6), ((100, 103), -1), ((104, 104), 0), ((105, 105), 4), ((106, 108), -1), ((109, 109), 3), ((110, 110), 5), ((111, 115), -1), ((116, 116), 1), ((117, 118), -1), ((119, 119), 2), ((120, 127), -1)]
set_option maxRecDepth 100000 in
theorem xtx_run : zall (fun q => xtx_ck mJ0_indexOf_0f7a4 (xtx_bx 2 q.1) q.2) xtx_L = true := by decide +kernel
noncomputable def xtx_for (f : Nat → Bool) (n : Nat) : Bool := Nat.rec true (fun k ih => match f k with
  | true => ih
  | false => false) n
theorem xtx_for_ok {f : Nat → Bool} : ∀ {n : Nat}, xtx_for f n = true → ∀ k, k < n → f k = true
  | 0, _, k, hk => absurd hk (Nat.not_lt_zero k)
  | n + 1, h, k, hk => by
    have h : (match f n with
      | true => xtx_for f n
      | false => false) = true := h
    split at h
    · rename_i hf
      by_cases e : k = n
      · rw [e]; exact hf
      · exact xtx_for_ok h k (by omega)
    · cases h
set_option maxRecDepth 100000 in
theorem xtx_run2 : xtx_for (fun k => xtx_ck mJ0_indexOf_0f7a4 (xtx_bx 2 (Int.ofNat (128 + k), Int.ofNat (128 + k))) (-1)) 128 = true := by decide +kernel
noncomputable def xtx_M : List ((Int × Int) × Int) := [((0, 0), 116), ((1, 1), 43), ((2, 2), 119), ((3, 3), 43), ((4, 4), 40), ((5, 5), 104), ((6, 6), 62), ((7, 7), 53), ((8, 8), 41), ((9, 9), 42), ((10, 10), 57)]
set_option maxRecDepth 100000 in
theorem xtx_runM : zall (fun q => xtx_ck mJ0_charAt_5068e (xtx_bx 0 q.1) q.2) xtx_M = true := by decide +kernel
set_option maxRecDepth 100000 in
theorem xtx_runN : xtx_ck mJ0_length_8abf5 [.inr (.inr (.inr (.inr 0)))] 11 = true := by decide +kernel
section XTT
variable {l : Launch} {D : va_G} {tys : List (ClassId × FieldType)} {o : zO} {z : Nat} {b : Nat → Nat}
theorem xtx_by {f : Int32 → Int32} {L : List ((Int × Int) × Int)} {mr : zM} {k mi : Nat} {x : Int32} (E : zEnv tys) (hm : zget zprog mi = some mr) (hk : k < 100) (hrun : zall (fun q => xtx_ck mr (xtx_bx k q.1) q.2) L = true) (hx : ∃ (i : Nat) (q : (Int × Int) × Int), L[i]? = some q ∧ q.1.1 ≤ x.toInt ∧ x.toInt ≤ q.1.2 ∧ q.2 = (f x).toInt) : xq_Tx l D vwCl tys z (zXX o z) zTs b mr (o.2.1 k) [.int x] (f x) := by
  obtain ⟨i, q, hq, h1, h2, h3⟩ := hx
  have := zall_ok hrun hq
  rw [h3] at this
  exact xq_tx_met E hm this (xtx_in hk h1 h2)
theorem xtx_ix (E : zEnv tys) (x : Int32) (hx : 0 ≤ x ∧ x ≤ 255) : xq_Tx l D vwCl tys z (zXX o z) zTs b mJ0_indexOf_0f7a4 (o.2.1 (2 * 1)) [.int x] (xt_ix x) := by
  obtain ⟨h1, h2⟩ := hx
  have h1 : (0 : Int) ≤ x.toInt := Int32.le_iff_toInt_le.mp h1
  have h2 : x.toInt ≤ 255 := Int32.le_iff_toInt_le.mp h2
  have hne : ∀ c : Int32, x.toInt ≠ c.toInt → x ≠ c := fun c h e => h (by rw [e])
  have e104 : (104 : Int32).toInt = 104 := by decide
  have e116 : (116 : Int32).toInt = 116 := by decide
  have e119 : (119 : Int32).toInt = 119 := by decide
  have e109 : (109 : Int32).toInt = 109 := by decide
  have e105 : (105 : Int32).toInt = 105 := by decide
  have e110 : (110 : Int32).toInt = 110 := by decide
  have e99 : (99 : Int32).toInt = 99 := by decide
  have m1 : x.toInt ≠ 104 → x.toInt ≠ 116 → x.toInt ≠ 119 → x.toInt ≠ 109 → x.toInt ≠ 105 → x.toInt ≠ 110 → x.toInt ≠ 99 → (xt_ix x).toInt = -1 := fun a104 a116 a119 a109 a105 a110 a99 => by
    unfold xt_ix
    rw [if_neg (hne 104 (by rw [e104]; exact a104)), if_neg (hne 116 (by rw [e116]; exact a116)), if_neg (hne 119 (by rw [e119]; exact a119)), if_neg (hne 109 (by rw [e109]; exact a109)), if_neg (hne 105 (by rw [e105]; exact a105)), if_neg (hne 110 (by rw [e110]; exact a110)), if_neg (hne 99 (by rw [e99]; exact a99))]
    decide
  by_cases h128 : 128 ≤ x.toInt
  · have hc := xtx_for_ok xtx_run2 (x.toInt.toNat - 128) (by omega)
    have e9 : (Int.ofNat (128 + (x.toInt.toNat - 128))) = x.toInt := by
      show ((128 + (x.toInt.toNat - 128) : Nat) : Int) = x.toInt
      omega
    rw [e9, ← m1 (by omega) (by omega) (by omega) (by omega) (by omega) (by omega) (by omega)] at hc
    exact xq_tx_met E (show zget zprog 4 = some mJ0_indexOf_0f7a4 from rfl) hc (xtx_in (by decide) (Int.le_refl _) (Int.le_refl _))
  refine xtx_by E (k := 2) (show zget zprog 4 = some mJ0_indexOf_0f7a4 from rfl) (by decide) xtx_run ?_
  have hs : (0 ≤ x.toInt ∧ x.toInt ≤ 98) ∨ x.toInt = 99 ∨ (100 ≤ x.toInt ∧ x.toInt ≤ 103) ∨ x.toInt = 104 ∨ x.toInt = 105 ∨ (106 ≤ x.toInt ∧ x.toInt ≤ 108) ∨ x.toInt = 109 ∨ x.toInt = 110 ∨ (111 ≤ x.toInt ∧ x.toInt ≤ 115) ∨ x.toInt = 116 ∨ (117 ≤ x.toInt ∧ x.toInt ≤ 118) ∨ x.toInt = 119 ∨ (120 ≤ x.toInt ∧ x.toInt ≤ 127) := by omega
  rcases hs with h | h | h | h | h | h | h | h | h | h | h | h | h
  · exact ⟨0, _, rfl, h.1, h.2, (m1 (by omega) (by omega) (by omega) (by omega) (by omega) (by omega) (by omega)).symm⟩
  · have e : x = 99 := Int32.toInt_inj.mp (by rw [h]; decide)
    subst e
    exact ⟨1, _, rfl, by decide, by decide, by decide⟩
  · exact ⟨2, _, rfl, h.1, h.2, (m1 (by omega) (by omega) (by omega) (by omega) (by omega) (by omega) (by omega)).symm⟩
  · have e : x = 104 := Int32.toInt_inj.mp (by rw [h]; decide)
    subst e
    exact ⟨3, _, rfl, by decide, by decide, by decide⟩
  · have e : x = 105 := Int32.toInt_inj.mp (by rw [h]; decide)
    subst e
    exact ⟨4, _, rfl, by decide, by decide, by decide⟩
  · exact ⟨5, _, rfl, h.1, h.2, (m1 (by omega) (by omega) (by omega) (by omega) (by omega) (by omega) (by omega)).symm⟩
  · have e : x = 109 := Int32.toInt_inj.mp (by rw [h]; decide)
    subst e
    exact ⟨6, _, rfl, by decide, by decide, by decide⟩
  · have e : x = 110 := Int32.toInt_inj.mp (by rw [h]; decide)
    subst e
    exact ⟨7, _, rfl, by decide, by decide, by decide⟩
  · exact ⟨8, _, rfl, h.1, h.2, (m1 (by omega) (by omega) (by omega) (by omega) (by omega) (by omega) (by omega)).symm⟩
  · have e : x = 116 := Int32.toInt_inj.mp (by rw [h]; decide)
    subst e
    exact ⟨9, _, rfl, by decide, by decide, by decide⟩
  · exact ⟨10, _, rfl, h.1, h.2, (m1 (by omega) (by omega) (by omega) (by omega) (by omega) (by omega) (by omega)).symm⟩
  · have e : x = 119 := Int32.toInt_inj.mp (by rw [h]; decide)
    subst e
    exact ⟨11, _, rfl, by decide, by decide, by decide⟩
  · exact ⟨12, _, rfl, h.1, h.2, (m1 (by omega) (by omega) (by omega) (by omega) (by omega) (by omega) (by omega)).symm⟩
theorem xtx_at (E : zEnv tys) (x : Int32) (hx : 0 ≤ x ∧ x ≤ 10) : xq_Tx l D vwCl tys z (zXX o z) zTs b mJ0_charAt_5068e (o.2.1 (2 * 0)) [.int x] (xt_at x) := by
  refine xtx_by E (k := 0) (show zget zprog 0 = some mJ0_charAt_5068e from rfl) (by decide) xtx_runM ?_
  obtain ⟨h1, h2⟩ := hx
  have h1 : (0 : Int) ≤ x.toInt := Int32.le_iff_toInt_le.mp h1
  have h2 : x.toInt ≤ 10 := Int32.le_iff_toInt_le.mp h2
  have hs : x.toInt = 0 ∨ x.toInt = 1 ∨ x.toInt = 2 ∨ x.toInt = 3 ∨ x.toInt = 4 ∨ x.toInt = 5 ∨ x.toInt = 6 ∨ x.toInt = 7 ∨ x.toInt = 8 ∨ x.toInt = 9 ∨ x.toInt = 10 := by omega
  rcases hs with h | h | h | h | h | h | h | h | h | h | h
  · have e : x = 0 := Int32.toInt_inj.mp (by rw [h]; decide)
    subst e
    exact ⟨0, _, rfl, by decide, by decide, by decide⟩
  · have e : x = 1 := Int32.toInt_inj.mp (by rw [h]; decide)
    subst e
    exact ⟨1, _, rfl, by decide, by decide, by decide⟩
  · have e : x = 2 := Int32.toInt_inj.mp (by rw [h]; decide)
    subst e
    exact ⟨2, _, rfl, by decide, by decide, by decide⟩
  · have e : x = 3 := Int32.toInt_inj.mp (by rw [h]; decide)
    subst e
    exact ⟨3, _, rfl, by decide, by decide, by decide⟩
  · have e : x = 4 := Int32.toInt_inj.mp (by rw [h]; decide)
    subst e
    exact ⟨4, _, rfl, by decide, by decide, by decide⟩
  · have e : x = 5 := Int32.toInt_inj.mp (by rw [h]; decide)
    subst e
    exact ⟨5, _, rfl, by decide, by decide, by decide⟩
  · have e : x = 6 := Int32.toInt_inj.mp (by rw [h]; decide)
    subst e
    exact ⟨6, _, rfl, by decide, by decide, by decide⟩
  · have e : x = 7 := Int32.toInt_inj.mp (by rw [h]; decide)
    subst e
    exact ⟨7, _, rfl, by decide, by decide, by decide⟩
  · have e : x = 8 := Int32.toInt_inj.mp (by rw [h]; decide)
    subst e
    exact ⟨8, _, rfl, by decide, by decide, by decide⟩
  · have e : x = 9 := Int32.toInt_inj.mp (by rw [h]; decide)
    subst e
    exact ⟨9, _, rfl, by decide, by decide, by decide⟩
  · have e : x = 10 := Int32.toInt_inj.mp (by rw [h]; decide)
    subst e
    exact ⟨10, _, rfl, by decide, by decide, by decide⟩
theorem xtx_len (E : zEnv tys) : xq_Tx l D vwCl tys z (zXX o z) zTs b mJ0_length_8abf5 (o.2.1 (2 * 0)) [] 11 := xq_tx_met E (show zget zprog 7 = some mJ0_length_8abf5 from rfl) (v := 11) xtx_runN ⟨⟨fun _ => rfl, Or.inr ⟨_, rfl⟩⟩, trivial⟩
end XTT
