/-! HEADS OF LOOPS: points with a measure that falls -/
noncomputable def zlin (g : Nat → Int32) (L : List (Nat × Int)) (k : Int) : Int := List.rec (motive := fun _ => Int) k (fun q _ ih => q.2 * (g q.1).toInt + ih) L
theorem zlin_c (g : Nat → Int32) (q : Nat × Int) (L : List (Nat × Int)) (k : Int) : zlin g (q :: L) k = q.2 * (g q.1).toInt + zlin g L k := rfl
theorem zlin_k (g : Nat → Int32) : ∀ (L : List (Nat × Int)) (k c : Int), zlin g L (k + c) = zlin g L k + c
  | [], k, c => rfl
  | q :: L, k, c => by rw [zlin_c, zlin_c, zlin_k g L k c]; omega
noncomputable def zladd (m : Nat) (c : Int) (L : List (Nat × Int)) : List (Nat × Int) := List.rec (motive := fun _ => List (Nat × Int)) [(m, c)] (fun q t ih => match Nat.beq q.1 m with
  | true => (q.1, q.2 + c) :: t
  | false => q :: ih) L
theorem zladd_ok (g : Nat → Int32) (m : Nat) (c k : Int) : ∀ (L : List (Nat × Int)), zlin g (zladd m c L) k = c * (g m).toInt + zlin g L k
  | [] => rfl
  | q :: L => by
    have e : zladd m c (q :: L) = (match Nat.beq q.1 m with
      | true => (q.1, q.2 + c) :: L
      | false => q :: zladd m c L) := rfl
    rw [e]
    split
    · rename_i h
      have h := Nat.eq_of_beq_eq_true h
      rw [zlin_c, zlin_c, ← h]
      dsimp only
      rw [Int.add_mul]
      omega
    · rw [zlin_c, zlin_c, zladd_ok g m c k L]
      omega
/-- the least that a sum can be -/
noncomputable def zlo (B : Nat → Option zI) (L : List (Nat × Int)) (k : Int) : Option Int := List.rec (motive := fun _ => Option Int) (some k) (fun q _ ih => match ih with
  | none => none
  | some s => (match B q.1 with
    | none => none
    | some iv => (match zle 0 q.2 with
      | true => some (q.2 * iv.1 + s)
      | false => some (q.2 * iv.2 + s)))) L
theorem zlo_ok {B : Nat → Option zI} {g : Nat → Int32} (hB : ∀ m iv, B m = some iv → zmem iv (g m).toInt) : ∀ {L : List (Nat × Int)} {k s : Int}, zlo B L k = some s → s ≤ zlin g L k
  | [], k, s, h => by cases h; exact Int.le_refl _
  | q :: L, k, s, h => by
    have h : (match zlo B L k with
      | none => none
      | some s => (match B q.1 with
        | none => none
        | some iv => (match zle 0 q.2 with
          | true => some (q.2 * iv.1 + s)
          | false => some (q.2 * iv.2 + s)))) = some s := h
    split at h
    · cases h
    · rename_i s' hs
      have ih := zlo_ok hB hs
      split at h
      · cases h
      · rename_i iv hiv
        obtain ⟨b1, b2⟩ := hB _ _ hiv
        rw [zlin_c]
        split at h
        · rename_i hc
          rw [zle_iff] at hc
          cases h
          have := Int.mul_le_mul_of_nonneg_left b1 hc
          omega
        · rename_i hc
          rw [zle_f] at hc
          cases h
          have := Int.mul_le_mul_of_nonpos_left (a := q.2) (by omega) b2
          omega
def zd0 (iv : zI) (w : Int) (a : List (Nat × Int) × Int) : List (Nat × Int) × Int := (a.1, match zle 0 w with
  | true => a.2 + -(w * iv.2)
  | false => a.2 + -(w * iv.1))
/-- a sum less w times a value, by the value's name or its bounds -/
noncomputable def zd1 (B : Nat → Option zI) (q : zN) (w : Int) (a : List (Nat × Int) × Int) : List (Nat × Int) × Int := match q.2 with
  | none => zd0 q.1 w a
  | some t => (match Nat.ble (t.1 + 1) 100 with
    | true => (match B t.1 with
      | none => zd0 q.1 w a
      | some iv => (match zin 2147483648 (iv.1 + t.2) (iv.2 + t.2) with
        | true => (zladd t.1 (-w) a.1, a.2 + -(w * t.2))
        | false => zd0 q.1 w a))
    | false => (match Nat.ble 1000 t.1 && (Nat.ble (t.1 + 1) 1100 && zle 0 w) with
      | true => (zladd (t.1 - 1000) (-w) a.1, a.2 + -(w * t.2))
      | false => zd0 q.1 w a))
theorem zd0_ok {g : Nat → Int32} {iv : zI} {w x : Int} (hx : zmem iv x) (a : List (Nat × Int) × Int) : zlin g (zd0 iv w a).1 (zd0 iv w a).2 + w * x ≤ zlin g a.1 a.2 := by
  obtain ⟨h1, h2⟩ := hx
  unfold zd0
  dsimp only
  split
  · rename_i hc
    rw [zle_iff] at hc
    rw [zlin_k]
    have := Int.mul_le_mul_of_nonneg_left h2 hc
    omega
  · rename_i hc
    rw [zle_f] at hc
    rw [zlin_k]
    have := Int.mul_le_mul_of_nonpos_left (a := w) (by omega) h1
    omega
theorem zd1_ok {B : Nat → Option zI} {f g : Nat → Int32} (hfg : zag g f) (hB : ∀ m iv, B m = some iv → zmem iv (g m).toInt) {q : zN} {w : Int} {x : Int32} (hx : zmi q.1 x) (ht : ztg f q.2 x) (a : List (Nat × Int) × Int) : zlin g (zd1 B q w a).1 (zd1 B q w a).2 + w * x.toInt ≤ zlin g a.1 a.2 := by
  unfold zd1
  split
  · exact zd0_ok hx a
  · rename_i t hq
    rw [hq] at ht
    split
    · rename_i hm
      have hm := Nat.le_of_ble_eq_true hm
      split
      · exact zd0_ok hx a
      · rename_i iv hiv
        split
        · rename_i hz
          rw [zin_iff] at hz
          have ht := (ztg_eq (by omega)).mp ht
          rw [hfg t.1 (by omega)] at ht
          obtain ⟨b1, b2⟩ := hB _ _ hiv
          have e : x.toInt = (g t.1).toInt + t.2 := by
            rw [ht, Int32.toInt_add, Int32.toInt_ofInt, Int.add_bmod_bmod]
            exact zbm (B := 2147483648) (by decide) (by omega) (by omega)
          dsimp only
          rw [zlin_k, zladd_ok, e, Int.mul_add, Int.neg_mul]
          omega
        · exact zd0_ok hx a
    · split
      · rename_i hc
        simp only [Bool.and_eq_true, zle_iff] at hc
        have c1 := Nat.le_of_ble_eq_true hc.1
        have c2 := Nat.le_of_ble_eq_true hc.2.1
        have ht : x.toInt ≤ (f (t.1 - 1000)).toInt + t.2 := by
          unfold ztg at ht
          dsimp only at ht
          rw [if_neg (by omega)] at ht
          exact ht
        rw [hfg _ (by omega)] at ht
        have := Int.mul_le_mul_of_nonneg_left ht hc.2.2
        rw [Int.mul_add] at this
        dsimp only
        rw [zlin_k, zladd_ok, Int.neg_mul]
        omega
      · exact zd0_ok hx a
/-- a sum less a measure of the locals -/
noncomputable def zdif (B : Nat → Option zI) (al : zL) (M : List (Nat × Int)) (a : List (Nat × Int) × Int) : Option (List (Nat × Int) × Int) := List.rec (motive := fun _ => Option (List (Nat × Int) × Int)) (some a) (fun q _ ih => match ih with
  | none => none
  | some a' => (match Nat.ble (q.1 + 1) 100 with
    | true => (match zlook al q.1 with
      | some (.inl v) => some (zd1 B v q.2 a')
      | _ => none)
    | false => none)) M
/-- the names at a head: n and 100 + n are local n -/
def zgv (ls : Array Slot) (n : Nat) : Int32 := match ls[if n < 100 then n else n - 100]? with
  | some (.val (.int x)) => x
  | _ => 0
theorem zgv_lo {ls : Array Slot} {n : Nat} {x : Int32} (h : n < 100) (hx : ls[n]? = some (.val (.int x))) : zgv ls n = x := by
  unfold zgv
  rw [if_pos h, hx]
theorem zgv_hi {ls : Array Slot} {n : Nat} {x : Int32} (hx : ls[n]? = some (.val (.int x))) : zgv ls (100 + n) = x := by
  unfold zgv
  rw [if_neg (by omega), Nat.add_sub_cancel_left, hx]
theorem zdif_ok {o : zO} {ad : Nat → Option Nat} {B : Nat → Option zI} {g f : Nat → Int32} (hfg : zag g f) (hB : ∀ m iv, B m = some iv → zmem iv (g m).toInt) {al : zL} {ls : Array Slot} {nL : Nat} (hl : ∃ lv, lv_has ls nL lv ∧ zr2 (zlr (zwith o f) ad) al lv) {a : List (Nat × Int) × Int} : ∀ {M : List (Nat × Int)} {r : List (Nat × Int) × Int}, zdif B al M a = some r → zlin g r.1 r.2 + zlin (zgv ls) M 0 ≤ zlin g a.1 a.2
  | [], r, h => by
    cases h
    show zlin g a.1 a.2 + 0 ≤ _
    omega
  | q :: M, r, h => by
    have h : (match zdif B al M a with
      | none => none
      | some a' => (match Nat.ble (q.1 + 1) 100 with
        | true => (match zlook al q.1 with
          | some (.inl v) => some (zd1 B v q.2 a')
          | _ => none)
        | false => none)) = some r := h
    split at h
    · cases h
    · rename_i a' ha'
      have ih := zdif_ok hfg hB hl ha'
      split at h
      · rename_i hq
        have hq := Nat.le_of_ble_eq_true hq
        split at h
        · rename_i v hv
          cases h
          obtain ⟨w, h1, h2⟩ := zlv hl hv
          obtain ⟨x, rfl, hx, ht⟩ := zint h2
          have hd := zd1_ok (w := q.2) hfg hB hx ht a'
          rw [zlin_c, zgv_lo (by omega) h1]
          omega
        · cases h
      · cases h
/-- a head, its state, its measure -/
abbrev zPt : Type := Nat × zK × List (Nat × Int) × Int
/-- bounds of the names at a head -/
noncomputable def zB (c : zK) (m : Nat) : Option zI := match zlook c.1 m with
  | some (.inl q) => (match q.2 with
    | some t => if Nat.beq t.1 m && (Nat.ble (m + 1) 100 && (zle 0 t.2 && zle t.2 0)) then some q.1 else none
    | none => none)
  | _ => none
theorem zB_ok {D : va_G} {cl : List vw_C} {tys : List (ClassId × FieldType)} {o : zO} {z : Nat} {ws0 : va_W} {nL : Nat} {H0 : Heap} {c : zK} {ls : Array Slot} {vst : List Value} {H : Heap} {locs : List Loc} {ws : va_W} {g : Nat → Int32} (S : zSat D cl tys (zwith o g) z ws0 nL H0 c ls vst H locs ws) : ∀ m iv, zB c m = some iv → zmem iv (g m).toInt := by
  intro m iv h
  unfold zB at h
  split at h
  · rename_i q hq
    split at h
    · rename_i t ht
      split at h
      · rename_i hc
        cases h
        simp only [Bool.and_eq_true, zle_iff] at hc
        have e1 := Nat.eq_of_beq_eq_true hc.1
        have e2 := Nat.le_of_ble_eq_true hc.2.1
        obtain ⟨w, h1, h2⟩ := zlv S.1 hq
        obtain ⟨x, rfl, hx, htx⟩ := zint h2
        rw [ht] at htx
        have htx := (ztg_eq (by omega)).mp htx
        rw [show t.2 = 0 by omega, show Int32.ofInt 0 = 0 by decide, Int32.add_zero, e1] at htx
        have htx : x = g m := htx
        rw [← htx]
        exact hx
      · cases h
    · cases h
  · cases h
def ztgl (i : Nat) (b : zAV) : Bool := match b with
  | .inl q => (match q.2 with
    | none => true
    | some t => zle 0 t.2 && (zle t.2 0 && ((Nat.beq t.1 i && Nat.ble (i + 1) 100) || (Nat.beq t.1 (100 + i) && Nat.ble (i + 1) 800))))
  | .inr _ => true
noncomputable def zincL (al : zL) (q : Nat × zAV) : Bool := match zlook al q.1 with
  | some a => zvl a q.2 && ztgl q.1 q.2
  | none => false
noncomputable def zinc (c C : zK) : Bool := match c.2.1 with
  | [] => (match C.2.1 with
    | [] => (match zall (zincL c.1) C.1 with
      | true => (match zhl c.2.2.1 C.2.2.1 with
        | true => zsm c.2.2.1.2.2 C.2.2.1.2.2 && (Nat.ble c.2.2.2.1 C.2.2.2.1 && Nat.ble c.2.2.2.2 C.2.2.2.2)
        | false => false)
      | false => false)
    | _ :: _ => false)
  | _ :: _ => false
theorem zincL_ok {o : zO} {ad : Nat → Option Nat} {f : Nat → Int32} {al : zL} {ls : Array Slot} {nL : Nat} (hl : ∃ lv, lv_has ls nL lv ∧ zr2 (zlr (zwith o f) ad) al lv) {q : Nat × zAV} (h : zincL al q = true) : ∃ v, ls[q.1]? = some (.val v) ∧ zg (zwith o (zgv ls)) ad q.2 v := by
  unfold zincL at h
  split at h
  · rename_i a ha
    rw [Bool.and_eq_true] at h
    obtain ⟨v, h1, h2⟩ := zlv hl ha
    have h3 := zvl_ok h.1 (zgH_of h2)
    refine ⟨v, h1, ?_⟩
    obtain ⟨i, b⟩ := q
    have h4 : ztgl i b = true := h.2
    rcases b with b | b
    · obtain ⟨x, rfl, hx⟩ := h3
      refine ⟨x, rfl, hx, ?_⟩
      unfold ztgl at h4
      dsimp only at h4
      cases hb : b.2 with
      | none => trivial
      | some t =>
        rw [hb] at h4
        simp only [Bool.and_eq_true, Bool.or_eq_true, zle_iff] at h4
        obtain ⟨k1, k2, k3⟩ := h4
        have e0 : Int32.ofInt t.2 = 0 := by rw [show t.2 = 0 by omega]; decide
        rcases k3 with ⟨k3, k4⟩ | ⟨k3, k4⟩
        · have k3 := Nat.eq_of_beq_eq_true k3
          have k4 := Nat.le_of_ble_eq_true k4
          refine (ztg_eq (by omega)).mpr ?_
          show x = zgv ls t.1 + Int32.ofInt t.2
          rw [e0, Int32.add_zero, k3, zgv_lo (by omega) h1]
        · have k3 := Nat.eq_of_beq_eq_true k3
          have k4 := Nat.le_of_ble_eq_true k4
          refine (ztg_eq (by omega)).mpr ?_
          show x = zgv ls t.1 + Int32.ofInt t.2
          rw [e0, Int32.add_zero, k3, zgv_hi h1]
    · exact zg_strip (a := .inr b) h3
  · cases h
theorem zincL_all {o : zO} {ad : Nat → Option Nat} {f : Nat → Int32} {al : zL} {ls : Array Slot} {nL : Nat} (hl : ∃ lv, lv_has ls nL lv ∧ zr2 (zlr (zwith o f) ad) al lv) : ∀ {C : zL}, zall (zincL al) C = true → ∃ lv, lv_has ls nL lv ∧ zr2 (zlr (zwith o (zgv ls)) ad) C lv
  | [], _ => by
    obtain ⟨lv, h1, -⟩ := hl
    exact ⟨[], ⟨h1.1, h1.2.1, fun q hq => absurd hq List.not_mem_nil⟩, trivial⟩
  | q :: C, h => by
    have h0 := zall_ok h (k := 0) (a := q) rfl
    have h : (match zincL al q with
      | true => zall (zincL al) C
      | false => false) = true := h
    rw [h0] at h
    obtain ⟨lv, h1, h2⟩ := zincL_all hl h
    obtain ⟨v, h3, h4⟩ := zincL_ok hl h0
    refine ⟨(q.1, v) :: lv, ⟨h1.1, h1.2.1, fun x hx => ?_⟩, ⟨rfl, h4⟩, h2⟩
    rcases List.mem_cons.mp hx with rfl | hx
    · exact h3
    · exact h1.2.2 x hx
theorem zinc_ok {D : va_G} {cl : List vw_C} {tys : List (ClassId × FieldType)} {o : zO} {z : Nat} {ws0 : va_W} {nL : Nat} {H0 : Heap} {c C : zK} {ls : Array Slot} {vst : List Value} {H : Heap} {locs : List Loc} {ws : va_W} {f : Nat → Int32} (h : zinc c C = true) (S : zSat D cl tys (zwith o f) z ws0 nL H0 c ls vst H locs ws) : zSat D cl tys (zwith o (zgv ls)) z ws0 nL H0 C ls vst H locs ws ∧ c.2.2.2.1 ≤ C.2.2.2.1 ∧ c.2.2.2.2 ≤ C.2.2.2.2 := by
  unfold zinc at h
  split at h
  · rename_i e1
    split at h
    · rename_i e2
      split at h
      · rename_i h1
        split at h
        · rename_i h2
          simp only [Bool.and_eq_true] at h
          obtain ⟨h3, h4, h5⟩ := h
          obtain ⟨s1, s2, s3, s4, s5, s6, s7⟩ := S
          rw [e1] at s2
          have ev := zr2_nil s2
          subst ev
          exact ⟨⟨zincL_all s1 h1, by rw [e2]; trivial, zhl_ok (o := zwith o (zgv ls)) h2 s3, s4, s5, s6, zsm_ok h3 s7⟩, Nat.le_of_ble_eq_true h4, Nat.le_of_ble_eq_true h5⟩
        · cases h
      · cases h
    · cases h
  · cases h
