/-! ROWS: stores that name, compares that narrow; splits of a local and of a slot -/
def zrf_lt (a b : zI) (t : Bool) : zI × zI := match t with
  | true => ((a.1, zmn a.2 (b.2 - 1)), (zmx b.1 (a.1 + 1), b.2))
  | false => ((zmx a.1 b.1, a.2), (b.1, zmn b.2 a.2))
def zrf_ge (a b : zI) (t : Bool) : zI × zI := zrf_lt a b (!t)
def zrf_gt (a b : zI) (t : Bool) : zI × zI := ((zrf_lt b a t).2, (zrf_lt b a t).1)
def zrf_le (a b : zI) (t : Bool) : zI × zI := zrf_gt a b (!t)
def ztrim (a b : zI) : zI := if zle b.2 b.1 then (if zle a.1 b.1 && zle b.1 a.1 then (a.1 + 1, a.2) else if zle a.2 b.1 && zle b.1 a.2 then (a.1, a.2 - 1) else a) else a
def zrf_eq (a b : zI) (t : Bool) : zI × zI := match t with
  | true => ((zmx a.1 b.1, zmn a.2 b.2), (zmx a.1 b.1, zmn a.2 b.2))
  | false => (ztrim a b, ztrim b a)
def zrf_ne (a b : zI) (t : Bool) : zI × zI := zrf_eq a b (!t)
theorem zrf_lt_ok (a b : zI) (x y : Int32) (hx : zmi a x) (hy : zmi b y) : (x < y → zmi (zrf_lt a b true).1 x ∧ zmi (zrf_lt a b true).2 y) ∧ (¬ x < y → zmi (zrf_lt a b false).1 x ∧ zmi (zrf_lt a b false).2 y) := by
  obtain ⟨x1, x2⟩ := hx
  obtain ⟨y1, y2⟩ := hy
  rw [Int32.lt_iff_toInt_lt]
  exact ⟨fun h => ⟨⟨x1, zmn_e x2 (by omega)⟩, ⟨zmx_e y1 (by omega), y2⟩⟩, fun h => ⟨⟨zmx_e x1 (by omega), x2⟩, ⟨y1, zmn_e y2 (by omega)⟩⟩⟩
theorem zrf_ge_ok (a b : zI) (x y : Int32) (hx : zmi a x) (hy : zmi b y) : (y ≤ x → zmi (zrf_ge a b true).1 x ∧ zmi (zrf_ge a b true).2 y) ∧ (¬ y ≤ x → zmi (zrf_ge a b false).1 x ∧ zmi (zrf_ge a b false).2 y) := by
  have h := zrf_lt_ok a b x y hx hy
  rw [Int32.lt_iff_toInt_lt] at h
  rw [Int32.le_iff_toInt_le]
  exact ⟨fun q => h.2 (by omega), fun q => h.1 (by omega)⟩
theorem zrf_gt_ok (a b : zI) (x y : Int32) (hx : zmi a x) (hy : zmi b y) : (y < x → zmi (zrf_gt a b true).1 x ∧ zmi (zrf_gt a b true).2 y) ∧ (¬ y < x → zmi (zrf_gt a b false).1 x ∧ zmi (zrf_gt a b false).2 y) := by
  have h := zrf_lt_ok b a y x hy hx
  exact ⟨fun q => ⟨(h.1 q).2, (h.1 q).1⟩, fun q => ⟨(h.2 q).2, (h.2 q).1⟩⟩
theorem zrf_le_ok (a b : zI) (x y : Int32) (hx : zmi a x) (hy : zmi b y) : (x ≤ y → zmi (zrf_le a b true).1 x ∧ zmi (zrf_le a b true).2 y) ∧ (¬ x ≤ y → zmi (zrf_le a b false).1 x ∧ zmi (zrf_le a b false).2 y) := by
  have h := zrf_gt_ok a b x y hx hy
  rw [Int32.lt_iff_toInt_lt] at h
  rw [Int32.le_iff_toInt_le]
  exact ⟨fun q => h.2 (by omega), fun q => h.1 (by omega)⟩
theorem ztrim_ok {a b : zI} {x y : Int32} (hx : zmi a x) (hy : zmi b y) (h : ¬ x.toInt = y.toInt) : zmi (ztrim a b) x := by
  obtain ⟨x1, x2⟩ := hx
  obtain ⟨y1, y2⟩ := hy
  unfold ztrim
  split
  · rename_i c0
    rw [zle_iff] at c0
    split
    · rename_i c1
      simp only [Bool.and_eq_true, zle_iff] at c1
      exact ⟨by show a.1 + 1 ≤ _; omega, x2⟩
    · split
      · rename_i c1
        simp only [Bool.and_eq_true, zle_iff] at c1
        exact ⟨x1, by show _ ≤ a.2 - 1; omega⟩
      · exact ⟨x1, x2⟩
  · exact ⟨x1, x2⟩
theorem zrf_eq_ok (a b : zI) (x y : Int32) (hx : zmi a x) (hy : zmi b y) : (x = y → zmi (zrf_eq a b true).1 x ∧ zmi (zrf_eq a b true).2 y) ∧ (¬ x = y → zmi (zrf_eq a b false).1 x ∧ zmi (zrf_eq a b false).2 y) := by
  refine ⟨fun h => ?_, fun h => ?_⟩
  · subst h
    exact ⟨⟨zmx_e hx.1 hy.1, zmn_e hx.2 hy.2⟩, ⟨zmx_e hx.1 hy.1, zmn_e hx.2 hy.2⟩⟩
  · have h' : ¬ x.toInt = y.toInt := fun e => h (Int32.toInt_inj.mp e)
    exact ⟨ztrim_ok hx hy h', ztrim_ok hy hx (fun e => h' e.symm)⟩
theorem zrf_ne_ok (a b : zI) (x y : Int32) (hx : zmi a x) (hy : zmi b y) : (¬ x = y → zmi (zrf_ne a b true).1 x ∧ zmi (zrf_ne a b true).2 y) ∧ (¬ ¬ x = y → zmi (zrf_ne a b false).1 x ∧ zmi (zrf_ne a b false).2 y) := by
  have h := zrf_eq_ok a b x y hx hy
  exact ⟨fun q => h.2 q, fun q => h.1 (Classical.byContradiction q)⟩
/-- a local between other bounds -/
noncomputable def zboxes (f : zI → Bool) (q : zI) (l : List zI) : Bool := List.rec (motive := fun _ => Bool) true (fun b _ ih => match zle (zmx q.1 b.1) (zmn q.2 b.2) with
  | true => (match f (zmx q.1 b.1, zmn q.2 b.2) with
    | true => ih
    | false => false)
  | false => ih) l
theorem zboxes_ok {f : zI → Bool} {q : zI} {x : Int} (hx : zmem q x) : ∀ {l : List zI}, zboxes f q l = true → ∀ b ∈ l, zmem b x → f (zmx q.1 b.1, zmn q.2 b.2) = true
  | [], _, b, hb, _ => absurd hb List.not_mem_nil
  | a :: l, h, b, hb, hm => by
    have h : (match zle (zmx q.1 a.1) (zmn q.2 a.2) with
      | true => (match f (zmx q.1 a.1, zmn q.2 a.2) with
        | true => zboxes f q l
        | false => false)
      | false => zboxes f q l) = true := h
    rcases List.mem_cons.mp hb with rfl | hb
    · have hle : zle (zmx q.1 b.1) (zmn q.2 b.2) = true := by
        rw [zle_iff]
        exact Int.le_trans (zmx_e hx.1 hm.1) (zmn_e hx.2 hm.2)
      rw [hle] at h
      dsimp only at h
      split at h
      · rename_i hf; exact hf
      · cases h
    · split at h
      · split at h
        · exact zboxes_ok hx h b hb hm
        · cases h
      · exact zboxes_ok hx h b hb hm
/-- the bounds cover from lo up to hi -/
noncomputable def zcovr (hi : Int) (l : List zI) : Int → Bool := List.rec (motive := fun _ => Int → Bool) (fun lo => zle (hi + 1) lo) (fun b _ ih lo => zle b.1 lo && ih (b.2 + 1)) l
theorem zcovr_ok {hi x : Int} : ∀ {l : List zI} {lo : Int}, zcovr hi l lo = true → lo ≤ x → x ≤ hi → ∃ b ∈ l, zmem b x
  | [], lo, h, h1, h2 => by
    have h : zle (hi + 1) lo = true := h
    rw [zle_iff] at h
    omega
  | b :: l, lo, h, h1, h2 => by
    have h : (zle b.1 lo && zcovr hi l (b.2 + 1)) = true := h
    rw [Bool.and_eq_true, zle_iff] at h
    by_cases hb : x ≤ b.2
    · exact ⟨b, List.mem_cons_self, ⟨by omega, hb⟩⟩
    · obtain ⟨b', h3, h4⟩ := zcovr_ok (l := l) h.2 (by omega) h2
      exact ⟨b', List.mem_cons_of_mem _ h3, h4⟩
noncomputable def zset1 (i : Nat) (a : zAV) (l : zL) : zL := List.rec (motive := fun _ => zL) [] (fun q _ ih => Bool.casesOn (motive := fun _ => zL) (Nat.beq q.1 i) (q :: ih) ((q.1, a) :: ih)) l
theorem zset1_ok {o : zO} {ad : Nat → Option Nat} {i : Nat} {a : zAV} {v : Value} : ∀ {al : zL} {l : List (Nat × Value)}, zr2 (zlr o ad) al l → (∀ w, (i, w) ∈ l → zg o ad a w) → zr2 (zlr o ad) (zset1 i a al) l
  | [], [], _, _ => trivial
  | x :: al, y :: l, q, h => by
    have ih := zset1_ok (i := i) (a := a) (v := v) q.2 (fun w hw => h w (List.mem_cons_of_mem _ hw))
    by_cases hx : Nat.beq x.1 i = true
    · have e : zset1 i a (x :: al) = (x.1, a) :: zset1 i a al := by show Bool.casesOn (motive := fun _ => zL) (Nat.beq x.1 i) (x :: zset1 i a al) ((x.1, a) :: zset1 i a al) = _; rw [hx]
      rw [e]
      have hi : x.1 = i := Nat.eq_of_beq_eq_true hx
      refine ⟨⟨q.1.1, h y.2 ?_⟩, ih⟩
      rw [← hi, q.1.1]
      exact List.mem_cons_self
    · have hx : Nat.beq x.1 i = false := Bool.eq_false_iff.mpr hx
      have e : zset1 i a (x :: al) = x :: zset1 i a al := by show Bool.casesOn (motive := fun _ => zL) (Nat.beq x.1 i) (x :: zset1 i a al) ((x.1, a) :: zset1 i a al) = _; rw [hx]
      rw [e]
      exact ⟨q.1, ih⟩
  | [], _ :: _, q, _ => q.elim
  | _ :: _, [], q, _ => q.elim
/-- a local in turn within each of some bounds -/
noncomputable def zo_splL (i : Nat) (bx : List zI) (sem : zSem) : zSem := fun call rt go c => match zlook c.1 i with
  | some (.inl q) => (match zcovr q.1.2 bx q.1.1 with
    | true => zboxes (fun b => sem call rt go (zset1 i (.inl (b, q.2)) c.1, c.2)) q.1 bx
    | false => false)
  | some (.inr (.inl q)) => (match zcovr q.2 bx q.1 with
    | true => zboxes (fun b => sem call rt go (zset1 i (.inr (.inl b)) c.1, c.2)) q bx
    | false => false)
  | _ => false
section ZROWS
variable {p : Program} {l : Launch} {e : Env} {R : Room} {s : State} {m : MethodId} {args : Array Value} {below : List Frame} {meth : Method} {c0 : Code} {Q : State → Prop} {D : va_G} {cl : List vw_C} {tys : List (ClassId × FieldType)} {o : zO} {z : Nat} {X : State → Heap → Prop} {Ts : List Cond} {prog : List zM} {ws0 : va_W} {nL : Nat} {own : String} {cc : ByteArray} {ret : Option FieldType} {nm : String}
theorem zk_stN (C : zCx p R s m args meth c0 D cl tys z X Ts own cc nL nm) {pc nx i : Nat} (row : ∀ (H : Heap) (locs : List Loc) (cells slots : Nat) (ls : Array Slot) (rest : List Value) (x : Int32) (lv : List (Nat × Value)), lv_has ls nL lv → (∀ ls' : Array Slot, lv_has ls' nL ((i, Value.int x) :: lv.filter (fun q => !(q.1 == i) && !(q.1 + 1 == i && q.2.category == 2))) → W p l e R s m args below meth c0 H locs cells slots Q (F0 m nx ls' rest)) → W p l e R s m args below meth c0 H locs cells slots Q (F0 m pc ls (.int x :: rest))) : zOp p l e R s m args below meth c0 Q D cl tys o z X Ts prog ws0 nL cc ret (pc) (zo_stN nx i) := by
  intro call rt go c _ _ hgo hs fv hfv ls vst H locs ws S
  unfold zo_stN at hs
  split at hs
  · rename_i al q st h
    obtain ⟨v, t, rfl, h1, h2⟩ := zr2_cons S.2.1
    obtain ⟨x, rfl, hx⟩ := zint h1
    obtain ⟨lv, hl, ha⟩ := S.1
    refine row _ _ _ _ _ _ _ lv hl (fun ls' hl' => ?_)
    split at hs
    · exact hgo _ _ hs fv hfv ls' _ H locs ws (zSat_lo S hl' ⟨⟨rfl, _, rfl, hx⟩, zfilter_ok zkeep1_ok ha⟩ h2)
    · split at hs
      · rename_i hi
        have hi := Nat.le_of_ble_eq_true hi
        have hf' : ∀ k, k ≠ 100 + i → (fun k => if k = 100 + i then x else fv k) k = fv k := fun k hk => if_neg hk
        refine hgo _ _ hs (fun k => if k = 100 + i then x else fv k) (fun n hn => by show (if n = 100 + i then x else fv n) = _; rw [if_neg (by omega)]; exact hfv n hn) ls' _ H locs ws ⟨⟨_, hl', ⟨⟨rfl, x, rfl, hx.1, ?_⟩, zmapL_ok (zut_ok hf') (zfilter_ok zkeep1_ok ha)⟩⟩, zmapS_ok (zut_ok hf') h2, S.2.2⟩
        refine (ztg_eq (q := (100 + i, 0)) (by show 100 + i < 1000; omega)).mpr ?_
        show x = (if 100 + i = 100 + i then x else _) + Int32.ofInt 0
        rw [if_pos rfl, show Int32.ofInt 0 = 0 by decide, Int32.add_zero]
      · cases hs
  · cases hs
theorem zq_istoreN_n (C : zCx p R s m args meth c0 D cl tys z X Ts own cc nL nm) {pc i : Nat} {k : Fin 4} (hd : decode cc pc = .ok (.istore_n k, 1)) (hi : (k : Nat) = i) (hn : i < nL) : zOp p l e R s m args below meth c0 Q D cl tys o z X Ts prog ws0 nL cc ret (pc) (zo_stN (pc + 1) i) := zk_stN C (fun _ _ _ _ _ _ _ lv hl kk => lv_istore_n C.1 C.2.1 hd hi hl hn rfl kk)
theorem zq_istoreN (C : zCx p R s m args meth c0 D cl tys z X Ts own cc nL nm) {pc i : Nat} (hd : decode cc pc = .ok (.istore i, 2)) (hn : i < nL) : zOp p l e R s m args below meth c0 Q D cl tys o z X Ts prog ws0 nL cc ret (pc) (zo_stN (pc + 2) i) := zk_stN C (fun _ _ _ _ _ _ _ lv hl kk => lv_istore C.1 C.2.1 hd hl hn rfl kk)
theorem zqr_lt (C : zCx p R s m args meth c0 D cl tys z X Ts own cc nL nm) {pc t : Nat} {off : Int} (hd : decode cc pc = .ok (.if_icmp .lt off, 3)) (ht : (pc : Int) + off = (t : Int)) : zOp p l e R s m args below meth c0 Q D cl tys o z X Ts prog ws0 nL cc ret (pc) (zo_icR zc_lt zrf_lt t (pc + 3)) := zk_icR C (P := fun x y => x < y) (fun _ a b x y h1 h2 _ _ => zc_lt_ok h1 h2) zrf_lt_ok (fun _ _ _ _ _ _ _ _ k1 k2 => lv_icmp_lt C.1 C.2.1 hd ht k1 k2)
theorem zqr_ge (C : zCx p R s m args meth c0 D cl tys z X Ts own cc nL nm) {pc t : Nat} {off : Int} (hd : decode cc pc = .ok (.if_icmp .ge off, 3)) (ht : (pc : Int) + off = (t : Int)) : zOp p l e R s m args below meth c0 Q D cl tys o z X Ts prog ws0 nL cc ret (pc) (zo_icR zc_ge zrf_ge t (pc + 3)) := zk_icR C (P := fun x y => y ≤ x) (fun _ a b x y h1 h2 _ _ => zc_ge_ok h1 h2) zrf_ge_ok (fun _ _ _ _ _ _ _ _ k1 k2 => lv_icmp_ge C.1 C.2.1 hd ht k1 k2)
theorem zqr_gt (C : zCx p R s m args meth c0 D cl tys z X Ts own cc nL nm) {pc t : Nat} {off : Int} (hd : decode cc pc = .ok (.if_icmp .gt off, 3)) (ht : (pc : Int) + off = (t : Int)) : zOp p l e R s m args below meth c0 Q D cl tys o z X Ts prog ws0 nL cc ret (pc) (zo_icR zc_gt zrf_gt t (pc + 3)) := zk_icR C (P := fun x y => y < x) (fun _ a b x y h1 h2 _ _ => zc_gt_ok h1 h2) zrf_gt_ok (fun _ _ _ _ _ _ _ _ k1 k2 => lv_icmp_gt C.1 C.2.1 hd ht k1 k2)
theorem zqr_le (C : zCx p R s m args meth c0 D cl tys z X Ts own cc nL nm) {pc t : Nat} {off : Int} (hd : decode cc pc = .ok (.if_icmp .le off, 3)) (ht : (pc : Int) + off = (t : Int)) : zOp p l e R s m args below meth c0 Q D cl tys o z X Ts prog ws0 nL cc ret (pc) (zo_icR zc_le zrf_le t (pc + 3)) := zk_icR C (P := fun x y => x ≤ y) (fun _ a b x y h1 h2 _ _ => zc_le_ok h1 h2) zrf_le_ok (fun _ _ _ _ _ _ _ _ k1 k2 => lv_icmp_le C.1 C.2.1 hd ht k1 k2)
theorem zqr_eq (C : zCx p R s m args meth c0 D cl tys z X Ts own cc nL nm) {pc t : Nat} {off : Int} (hd : decode cc pc = .ok (.if_icmp .eq off, 3)) (ht : (pc : Int) + off = (t : Int)) : zOp p l e R s m args below meth c0 Q D cl tys o z X Ts prog ws0 nL cc ret (pc) (zo_icR zeqn zrf_eq t (pc + 3)) := zk_icR C (P := fun x y => x = y) (fun _ a b x y h1 h2 h3 h4 => zeqn_ok h1 h2 h3 h4) zrf_eq_ok (fun _ _ _ _ _ _ _ _ k1 k2 => lv_icmp_eq C.1 C.2.1 hd ht k1 k2)
theorem zqr_ne (C : zCx p R s m args meth c0 D cl tys z X Ts own cc nL nm) {pc t : Nat} {off : Int} (hd : decode cc pc = .ok (.if_icmp .ne off, 3)) (ht : (pc : Int) + off = (t : Int)) : zOp p l e R s m args below meth c0 Q D cl tys o z X Ts prog ws0 nL cc ret (pc) (zo_icR zc_ne zrf_ne t (pc + 3)) := zk_icR C (P := fun x y => ¬ x = y) (fun _ a b x y h1 h2 h3 h4 => znot_ok (zeqn_ok h1 h2 h3 h4)) zrf_ne_ok (fun _ _ _ _ _ _ _ _ k1 k2 => lv_icmp_ne C.1 C.2.1 hd ht k1 (fun e => k2 (fun n => n e)))
def zr0 (rf : zI → zI → Bool → zI × zI) (a : zI) (t : Bool) : zI := (rf a (0, 0) t).1
theorem zqr_if_lt (C : zCx p R s m args meth c0 D cl tys z X Ts own cc nL nm) {pc t : Nat} {off : Int} (hd : decode cc pc = .ok (.ifCond .lt off, 3)) (ht : (pc : Int) + off = (t : Int)) : zOp p l e R s m args below meth c0 Q D cl tys o z X Ts prog ws0 nL cc ret (pc) (zo_ifR zd_lt (zr0 zrf_lt) t (pc + 3)) := zk_ifR C (P := fun x => x < 0) (fun a x h => zc_lt_ok (a := (a, none)) (b := ((0, 0), none)) h z00) (fun a x h => ⟨fun q => ((zrf_lt_ok a (0, 0) x 0 h z00).1 q).1, fun q => ((zrf_lt_ok a (0, 0) x 0 h z00).2 q).1⟩) (fun _ _ _ _ _ _ _ k1 k2 => lv_if_lt C.1 C.2.1 hd ht k1 k2)
theorem zqr_if_ge (C : zCx p R s m args meth c0 D cl tys z X Ts own cc nL nm) {pc t : Nat} {off : Int} (hd : decode cc pc = .ok (.ifCond .ge off, 3)) (ht : (pc : Int) + off = (t : Int)) : zOp p l e R s m args below meth c0 Q D cl tys o z X Ts prog ws0 nL cc ret (pc) (zo_ifR zd_ge (zr0 zrf_ge) t (pc + 3)) := zk_ifR C (P := fun x => 0 ≤ x) (fun a x h => zc_ge_ok (a := (a, none)) (b := ((0, 0), none)) h z00) (fun a x h => ⟨fun q => ((zrf_ge_ok a (0, 0) x 0 h z00).1 q).1, fun q => ((zrf_ge_ok a (0, 0) x 0 h z00).2 q).1⟩) (fun _ _ _ _ _ _ _ k1 k2 => lv_if_ge C.1 C.2.1 hd ht k1 k2)
theorem zqr_if_gt (C : zCx p R s m args meth c0 D cl tys z X Ts own cc nL nm) {pc t : Nat} {off : Int} (hd : decode cc pc = .ok (.ifCond .gt off, 3)) (ht : (pc : Int) + off = (t : Int)) : zOp p l e R s m args below meth c0 Q D cl tys o z X Ts prog ws0 nL cc ret (pc) (zo_ifR zd_gt (zr0 zrf_gt) t (pc + 3)) := zk_ifR C (P := fun x => 0 < x) (fun a x h => zc_gt_ok (a := (a, none)) (b := ((0, 0), none)) h z00) (fun a x h => ⟨fun q => ((zrf_gt_ok a (0, 0) x 0 h z00).1 q).1, fun q => ((zrf_gt_ok a (0, 0) x 0 h z00).2 q).1⟩) (fun _ _ _ _ _ _ _ k1 k2 => lv_if_gt C.1 C.2.1 hd ht k1 k2)
theorem zqr_if_le (C : zCx p R s m args meth c0 D cl tys z X Ts own cc nL nm) {pc t : Nat} {off : Int} (hd : decode cc pc = .ok (.ifCond .le off, 3)) (ht : (pc : Int) + off = (t : Int)) : zOp p l e R s m args below meth c0 Q D cl tys o z X Ts prog ws0 nL cc ret (pc) (zo_ifR zd_le (zr0 zrf_le) t (pc + 3)) := zk_ifR C (P := fun x => x ≤ 0) (fun a x h => zc_le_ok (a := (a, none)) (b := ((0, 0), none)) h z00) (fun a x h => ⟨fun q => ((zrf_le_ok a (0, 0) x 0 h z00).1 q).1, fun q => ((zrf_le_ok a (0, 0) x 0 h z00).2 q).1⟩) (fun _ _ _ _ _ _ _ k1 k2 => lv_if_le C.1 C.2.1 hd ht k1 k2)
theorem zqr_if_eq (C : zCx p R s m args meth c0 D cl tys z X Ts own cc nL nm) {pc t : Nat} {off : Int} (hd : decode cc pc = .ok (.ifCond .eq off, 3)) (ht : (pc : Int) + off = (t : Int)) : zOp p l e R s m args below meth c0 Q D cl tys o z X Ts prog ws0 nL cc ret (pc) (zo_ifR zd_eq (zr0 zrf_eq) t (pc + 3)) := zk_ifR C (P := fun x => x = 0) (fun a x h => zd_eq_ok h) (fun a x h => ⟨fun q => ((zrf_eq_ok a (0, 0) x 0 h z00).1 q).1, fun q => ((zrf_eq_ok a (0, 0) x 0 h z00).2 q).1⟩) (fun _ _ _ _ _ _ _ k1 k2 => lv_if_eq C.1 C.2.1 hd ht k1 k2)
theorem zqr_if_ne (C : zCx p R s m args meth c0 D cl tys z X Ts own cc nL nm) {pc t : Nat} {off : Int} (hd : decode cc pc = .ok (.ifCond .ne off, 3)) (ht : (pc : Int) + off = (t : Int)) : zOp p l e R s m args below meth c0 Q D cl tys o z X Ts prog ws0 nL cc ret (pc) (zo_ifR zd_ne (zr0 zrf_ne) t (pc + 3)) := zk_ifR C (P := fun x => ¬ x = 0) (fun a x h => znot_ok (zd_eq_ok h)) (fun a x h => ⟨fun q => ((zrf_ne_ok a (0, 0) x 0 h z00).1 q).1, fun q => ((zrf_ne_ok a (0, 0) x 0 h z00).2 q).1⟩) (fun _ _ _ _ _ _ _ k1 k2 => lv_if_ne C.1 C.2.1 hd ht k1 (fun e => k2 (fun n => n e)))
theorem zk_splL {pc i : Nat} {bx : List zI} {sem : zSem} (h0 : zOp p l e R s m args below meth c0 Q D cl tys o z X Ts prog ws0 nL cc ret (pc) (sem)) : zOp p l e R s m args below meth c0 Q D cl tys o z X Ts prog ws0 nL cc ret (pc) (zo_splL i bx sem) := by
  intro call rt go c hcall hrt hgo hs fv hfv ls vst H locs ws S
  unfold zo_splL at hs
  obtain ⟨lv, hl, ha⟩ := S.1
  split at hs
  · rename_i q hq
    split at hs
    · rename_i hcv
      obtain ⟨k, v, g1, x, rfl, hx, ht⟩ := zlook_ok ha hq
      obtain ⟨b, hb, hm⟩ := zcovr_ok hcv hx.1 hx.2
      have hr := zboxes_ok hx hs b hb hm
      refine h0 call rt go _ hcall hrt hgo hr fv hfv ls vst H locs ws ⟨⟨lv, hl, zset1_ok (v := .int x) ha (fun w hw => ?_)⟩, S.2⟩
      have e1 := hl.2.2 _ (List.mem_of_getElem? g1)
      have e2 := hl.2.2 _ hw
      dsimp only at e1 e2
      rw [e1] at e2
      cases e2
      exact ⟨x, rfl, ⟨zmx_e hx.1 hm.1, zmn_e hx.2 hm.2⟩, ht⟩
    · cases hs
  · rename_i q hq
    split at hs
    · rename_i hcv
      obtain ⟨k, v, g1, x, rfl, hx⟩ := zlook_ok ha hq
      obtain ⟨b, hb, hm⟩ := zcovr_ok hcv hx.1 hx.2
      have hr := zboxes_ok hx hs b hb hm
      refine h0 call rt go _ hcall hrt hgo hr fv hfv ls vst H locs ws ⟨⟨lv, hl, zset1_ok (v := .long x) ha (fun w hw => ?_)⟩, S.2⟩
      have e1 := hl.2.2 _ (List.mem_of_getElem? g1)
      have e2 := hl.2.2 _ hw
      dsimp only at e1 e2
      rw [e1] at e2
      cases e2
      exact ⟨x, rfl, ⟨zmx_e hx.1 hm.1, zmn_e hx.2 hm.2⟩⟩
    · cases hs
  · cases hs
end ZROWS
