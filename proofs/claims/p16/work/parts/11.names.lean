/-! NAMES: a store names, a compare narrows all locals of a name; splits -/
noncomputable def zmapL (f : zAV → zAV) (l : zL) : zL := List.rec (motive := fun _ => zL) [] (fun a _ ih => (a.1, f a.2) :: ih) l
noncomputable def zmapS (f : zAV → zAV) (l : List zAV) : List zAV := List.rec (motive := fun _ => List zAV) [] (fun a _ ih => f a :: ih) l
theorem zmapL_ok {o o' : zO} {ad : Nat → Option Nat} {f : zAV → zAV} (hf : ∀ a v, zg o ad a v → zg o' ad (f a) v) : ∀ {al : zL} {l : List (Nat × Value)}, zr2 (zlr o ad) al l → zr2 (zlr o' ad) (zmapL f al) l
  | [], [], _ => trivial
  | x :: al, y :: l, q => ⟨⟨q.1.1, hf _ _ q.1.2⟩, zmapL_ok hf q.2⟩
  | [], _ :: _, q => q.elim
  | _ :: _, [], q => q.elim
theorem zmapS_ok {o o' : zO} {ad : Nat → Option Nat} {f : zAV → zAV} (hf : ∀ a v, zg o ad a v → zg o' ad (f a) v) : ∀ {al : List zAV} {l : List Value}, zr2 (zg o ad) al l → zr2 (zg o' ad) (zmapS f al) l
  | [], [], _ => trivial
  | x :: al, y :: l, q => ⟨hf _ _ q.1, zmapS_ok hf q.2⟩
  | [], _ :: _, q => q.elim
  | _ :: _, [], q => q.elim
def zut (n : Nat) (a : zAV) : zAV := match a with
  | .inl q => (match q.2 with
    | some p => if Nat.beq p.1 n || Nat.beq p.1 (n + 1000) then .inl (q.1, none) else .inl q
    | none => .inl q)
  | .inr q => .inr q
theorem zut_ok {o : zO} {f f' : Nat → Int32} {n : Nat} {ad : Nat → Option Nat} (hf : ∀ k, k ≠ n → f' k = f k) (a : zAV) (v : Value) (h : zg (zwith o f) ad a v) : zg (zwith o f') ad (zut n a) v := by
  rcases a with q | q | k | t | k
  · obtain ⟨iv, t⟩ := q
    obtain ⟨x, rfl, hx, ht⟩ := h
    cases t with
    | none => exact ⟨x, rfl, hx, trivial⟩
    | some p =>
      show zg (zwith o f') ad (if (Nat.beq p.1 n || Nat.beq p.1 (n + 1000)) = true then .inl (iv, none) else .inl (iv, some p)) (.int x)
      by_cases hc : (Nat.beq p.1 n || Nat.beq p.1 (n + 1000)) = true
      · rw [if_pos hc]
        exact ⟨x, rfl, hx, trivial⟩
      · rw [if_neg hc]
        rw [Bool.or_eq_true] at hc
        have n1 : p.1 ≠ n := fun e => hc (Or.inl (by rw [e]; exact Nat.beq_refl _))
        have n2 : p.1 ≠ n + 1000 := fun e => hc (Or.inr (by rw [e]; exact Nat.beq_refl _))
        refine ⟨x, rfl, hx, ?_⟩
        have ht : (if p.1 < 1000 then x = f p.1 + Int32.ofInt p.2 else x.toInt ≤ (f (p.1 - 1000)).toInt + p.2) := ht
        show (if p.1 < 1000 then x = f' p.1 + Int32.ofInt p.2 else x.toInt ≤ (f' (p.1 - 1000)).toInt + p.2)
        by_cases h1 : p.1 < 1000
        · rw [if_pos h1] at ht ⊢
          rw [hf _ n1]
          exact ht
        · rw [if_neg h1] at ht ⊢
          rw [hf _ (by omega)]
          exact ht
  · exact h
  · exact h
  · exact h
  · exact h
noncomputable def zo_stN (nx i : Nat) : zSem := fun _ _ go c => match c with
  | (al, .inl q :: st, h) => (match q.2 with
    | some _ => go nx ((i, .inl q) :: zfilter (zkeep1 i) al, st, h)
    | none => if Nat.ble i 800 then go nx ((i, .inl (q.1, some (100 + i, 0))) :: zmapL (zut (100 + i)) (zfilter (zkeep1 i) al), zmapS (zut (100 + i)) st, h) else false)
  | _ => false
/-- what a compare tells -/
noncomputable def znar (t : zT) (iv : zI) (a : zAV) : zAV := match a with
  | .inl u => (match t with
    | some p => (match u.2 with
      | some r => if Nat.beq p.1 r.1 && (Nat.ble (p.1 + 1) 1000 && zin 2147483648 (iv.1 + (r.2 - p.2)) (iv.2 + (r.2 - p.2))) then .inl ((zmx u.1.1 (iv.1 + (r.2 - p.2)), zmn u.1.2 (iv.2 + (r.2 - p.2))), u.2) else .inl u
      | none => .inl u)
    | none => .inl u)
  | .inr q => .inr q
theorem zmx_e {a b x : Int} (h1 : a ≤ x) (h2 : b ≤ x) : zmx a b ≤ x := by
  unfold zmx
  split <;> assumption
theorem zmn_e {a b x : Int} (h1 : x ≤ a) (h2 : x ≤ b) : x ≤ zmn a b := by
  unfold zmn
  split <;> assumption
theorem znar_ok {o : zO} {f : Nat → Int32} {ad : Nat → Option Nat} {t : zT} {iv : zI} {x : Int32} (hx : zmi iv x) (ht : ztg f t x) (a : zAV) (v : Value) (h : zg (zwith o f) ad a v) : zg (zwith o f) ad (znar t iv a) v := by
  rcases a with u | q
  · obtain ⟨jv, s⟩ := u
    obtain ⟨y, rfl, hy, hs⟩ := h
    cases t with
    | none => exact ⟨y, rfl, hy, hs⟩
    | some p =>
      cases s with
      | none => exact ⟨y, rfl, hy, hs⟩
      | some r =>
        show zg (zwith o f) ad (if (Nat.beq p.1 r.1 && (Nat.ble (p.1 + 1) 1000 && zin 2147483648 (iv.1 + (r.2 - p.2)) (iv.2 + (r.2 - p.2)))) = true then .inl ((zmx jv.1 (iv.1 + (r.2 - p.2)), zmn jv.2 (iv.2 + (r.2 - p.2))), some r) else .inl (jv, some r)) (.int y)
        by_cases hc : (Nat.beq p.1 r.1 && (Nat.ble (p.1 + 1) 1000 && zin 2147483648 (iv.1 + (r.2 - p.2)) (iv.2 + (r.2 - p.2)))) = true
        · rw [if_pos hc]
          simp only [Bool.and_eq_true, zin_iff] at hc
          obtain ⟨c1, c2, c3, c4, c5⟩ := hc
          have e1 := Nat.eq_of_beq_eq_true c1
          have c2 := Nat.le_of_ble_eq_true c2
          have tx := (ztg_eq (by omega)).mp ht
          have ty := (ztg_eq (f := f) (q := r) (by omega)).mp hs
          obtain ⟨x1, x2⟩ := hx
          obtain ⟨y1, y2⟩ := hy
          have ey : y = x + Int32.ofInt (r.2 - p.2) := by
            rw [ty, tx, ← e1, Int32.add_assoc, ← zofA, show p.2 + (r.2 - p.2) = r.2 by omega]
          have ei : y.toInt = x.toInt + (r.2 - p.2) := by
            rw [ey, Int32.toInt_add, Int32.toInt_ofInt, Int.add_bmod_bmod]
            exact zbm (B := 2147483648) (by decide) (by omega) (by omega)
          exact ⟨y, rfl, ⟨zmx_e y1 (by omega), zmn_e y2 (by omega)⟩, hs⟩
        · rw [if_neg hc]
          exact ⟨y, rfl, hy, hs⟩
  · exact h
/-- nothing to narrow where there is no name -/
noncomputable def znL (t : zT) (iv : zI) (al : zL) : zL := match t with
  | none => al
  | some p => zmapL (znar (some p) iv) al
theorem znL_ok {o : zO} {f : Nat → Int32} {ad : Nat → Option Nat} {t : zT} {iv : zI} {x : Int32} (hx : zmi iv x) (ht : ztg f t x) {al : zL} {l : List (Nat × Value)} (h : zr2 (zlr (zwith o f) ad) al l) : zr2 (zlr (zwith o f) ad) (znL t iv al) l := by
  cases t with
  | none => exact h
  | some p => exact zmapL_ok (fun a v g => znar_ok hx ht a v g) h
/-- some local has no number left -/
noncomputable def zempt (l : zL) : Bool := List.rec (motive := fun _ => Bool) false (fun a _ ih => match a.2 with
  | .inl u => (match zle u.1.1 u.1.2 with
    | true => ih
    | false => true)
  | _ => ih) l
theorem zempt_ok {o : zO} {ad : Nat → Option Nat} : ∀ {al : zL} {l : List (Nat × Value)}, zr2 (zlr o ad) al l → zempt al = true → False
  | [], [], _, h => by cases h
  | (i, a) :: al, y :: l, q, h => by
    rcases a with u | w
    · have h : (match zle u.1.1 u.1.2 with
        | true => zempt al
        | false => true) = true := h
      split at h
      · exact zempt_ok q.2 h
      · rename_i hz
        rw [zle_f] at hz
        obtain ⟨x, -, ⟨h1, h2⟩, -⟩ := q.1.2
        omega
    · exact zempt_ok q.2 h
  | [], _ :: _, q, _ => q.elim
  | _ :: _, [], q, _ => q.elim
noncomputable def zbR (go : Nat → zK → Bool) (pc : Nat) (al : zL) (k : List zAV × zH × Nat × Nat) : Bool := match zempt al with
  | true => true
  | false => go pc (al, k)
noncomputable def zbT (t1 t2 : zT) (go : Nat → zK → Bool) (pc : Nat) (al : zL) (k : List zAV × zH × Nat × Nat) : Bool := match t1 with
  | none => (match t2 with
    | none => go pc (al, k)
    | some _ => zbR go pc al k)
  | some _ => zbR go pc al k
/-- a compare whose outcome narrows -/
noncomputable def zo_icR (f : zN → zN → Option Bool) (rf : zI → zI → Bool → zI × zI) (t nx : Nat) : zSem := fun _ _ go c => match c with
  | (al, .inl b :: .inl a :: st, h) => (match f a b with
    | some true => go t (al, st, h)
    | some false => go nx (al, st, h)
    | none => zbT a.2 b.2 go t (znL a.2 (rf a.1 b.1 true).1 (znL b.2 (rf a.1 b.1 true).2 al)) (st, h) && zbT a.2 b.2 go nx (znL a.2 (rf a.1 b.1 false).1 (znL b.2 (rf a.1 b.1 false).2 al)) (st, h))
  | _ => false
noncomputable def zo_ifR (f : zI → Option Bool) (rf : zI → Bool → zI) (t nx : Nat) : zSem := fun _ _ go c => match c with
  | (al, .inl a :: st, h) => (match f a.1 with
    | some true => go t (al, st, h)
    | some false => go nx (al, st, h)
    | none => zbT a.2 none go t (znL a.2 (rf a.1 true) al) (st, h) && zbT a.2 none go nx (znL a.2 (rf a.1 false) al) (st, h))
  | _ => false
section ZNAMES
variable {p : Program} {l : Launch} {e : Env} {R : Room} {s : State} {m : MethodId} {args : Array Value} {below : List Frame} {meth : Method} {c0 : Code} {Q : State → Prop} {D : va_G} {cl : List vw_C} {tys : List (ClassId × FieldType)} {o : zO} {z : Nat} {X : State → Heap → Prop} {Ts : List Cond} {prog : List zM} {ws0 : va_W} {nL : Nat} {own : String} {cc : ByteArray} {ret : Option FieldType} {nm : String}
theorem zGo_bR {go : Nat → zK → Bool} {pc : Nat} {al : zL} {k : List zAV × zH × Nat × Nat} {fv : Nat → Int32} (hgo : ∀ pc' c', go pc' c' = true → zGo p l e R s m args below meth c0 Q D cl tys o z ws0 nL pc' c') (hfv : zag o.2.2 fv) (h : zbR go pc al k = true) {ls : Array Slot} {vst : List Value} {H : Heap} {locs : List Loc} {ws : va_W} (S : zSat D cl tys (zwith o fv) z ws0 nL s.heap (al, k) ls vst H locs ws) : W p l e R s m args below meth c0 H locs k.2.2.1 k.2.2.2 Q (F0 m pc ls vst) := by
  unfold zbR at h
  split at h
  · rename_i he
    obtain ⟨⟨lv, -, h2⟩, -⟩ := S
    exact (zempt_ok h2 he).elim
  · exact hgo pc (al, k) h fv hfv ls vst H locs ws S
theorem zGo_bT {t1 t2 : zT} {go : Nat → zK → Bool} {pc : Nat} {al : zL} {k : List zAV × zH × Nat × Nat} {fv : Nat → Int32} (hgo : ∀ pc' c', go pc' c' = true → zGo p l e R s m args below meth c0 Q D cl tys o z ws0 nL pc' c') (hfv : zag o.2.2 fv) (h : zbT t1 t2 go pc al k = true) {ls : Array Slot} {vst : List Value} {H : Heap} {locs : List Loc} {ws : va_W} (S : zSat D cl tys (zwith o fv) z ws0 nL s.heap (al, k) ls vst H locs ws) : W p l e R s m args below meth c0 H locs k.2.2.1 k.2.2.2 Q (F0 m pc ls vst) := by
  unfold zbT at h
  split at h
  · split at h
    · exact hgo pc (al, k) h fv hfv ls vst H locs ws S
    · exact zGo_bR hgo hfv h S
  · exact zGo_bR hgo hfv h S
theorem zk_icR (C : zCx p R s m args meth c0 D cl tys z X Ts own cc nL nm) {pc nx t : Nat} {f : zN → zN → Option Bool} {rf : zI → zI → Bool → zI × zI} {P : Int32 → Int32 → Prop} (hf : ∀ (fv : Nat → Int32) (a b : zN) (x y : Int32), zmi a.1 x → zmi b.1 y → ztg fv a.2 x → ztg fv b.2 y → zdec (P x y) (f a b)) (hrf : ∀ (a b : zI) (x y : Int32), zmi a x → zmi b y → (P x y → zmi (rf a b true).1 x ∧ zmi (rf a b true).2 y) ∧ (¬ P x y → zmi (rf a b false).1 x ∧ zmi (rf a b false).2 y)) (row : ∀ (H : Heap) (locs : List Loc) (cells slots : Nat) (ls : Array Slot) (rest : List Value) (x y : Int32), (P x y → W p l e R s m args below meth c0 H locs cells slots Q (F0 m t ls rest)) → (¬ P x y → W p l e R s m args below meth c0 H locs cells slots Q (F0 m nx ls rest)) → W p l e R s m args below meth c0 H locs cells slots Q (F0 m pc ls (.int y :: .int x :: rest))) : zOp p l e R s m args below meth c0 Q D cl tys o z X Ts prog ws0 nL cc ret (pc) (zo_icR f rf t nx) := by
  intro call rt go c _ _ hgo hs fv hfv ls vst H locs ws S
  unfold zo_icR at hs
  split at hs
  · rename_i al b a st h
    obtain ⟨v, t9, rfl, h1, h2⟩ := zr2_cons S.2.1
    obtain ⟨v2, t2, rfl, h3, h4⟩ := zr2_cons h2
    obtain ⟨y, rfl, hy⟩ := zint h1
    obtain ⟨x, rfl, hx⟩ := zint h3
    have hdc := hf _ a b x y hx.1 hy.1 hx.2 hy.2
    have S' := zSat_st S h4
    split at hs
    · rename_i hd
      rw [hd] at hdc
      exact row _ _ _ _ _ _ _ _ (fun q => hgo _ _ hs fv hfv ls _ H locs ws S') (fun q => absurd (hdc.1 rfl) q)
    · rename_i hd
      rw [hd] at hdc
      exact row _ _ _ _ _ _ _ _ (fun q => absurd q (hdc.2 rfl)) (fun q => hgo _ _ hs fv hfv ls _ H locs ws S')
    · rw [Bool.and_eq_true] at hs
      have hr := hrf a.1 b.1 x y hx.1 hy.1
      obtain ⟨⟨lv, l1, l2⟩, S2⟩ := S'
      refine row _ _ _ _ _ _ _ _ (fun q => ?_) (fun q => ?_)
      · exact zGo_bT hgo hfv hs.1 ⟨⟨lv, l1, znL_ok (hr.1 q).1 hx.2 (znL_ok (hr.1 q).2 hy.2 l2)⟩, S2⟩
      · exact zGo_bT hgo hfv hs.2 ⟨⟨lv, l1, znL_ok (hr.2 q).1 hx.2 (znL_ok (hr.2 q).2 hy.2 l2)⟩, S2⟩
  · cases hs
theorem zk_ifR (C : zCx p R s m args meth c0 D cl tys z X Ts own cc nL nm) {pc nx t : Nat} {f : zI → Option Bool} {rf : zI → Bool → zI} {P : Int32 → Prop} (hf : ∀ (a : zI) (x : Int32), zmi a x → zdec (P x) (f a)) (hrf : ∀ (a : zI) (x : Int32), zmi a x → (P x → zmi (rf a true) x) ∧ (¬ P x → zmi (rf a false) x)) (row : ∀ (H : Heap) (locs : List Loc) (cells slots : Nat) (ls : Array Slot) (rest : List Value) (x : Int32), (P x → W p l e R s m args below meth c0 H locs cells slots Q (F0 m t ls rest)) → (¬ P x → W p l e R s m args below meth c0 H locs cells slots Q (F0 m nx ls rest)) → W p l e R s m args below meth c0 H locs cells slots Q (F0 m pc ls (.int x :: rest))) : zOp p l e R s m args below meth c0 Q D cl tys o z X Ts prog ws0 nL cc ret (pc) (zo_ifR f rf t nx) := by
  intro call rt go c _ _ hgo hs fv hfv ls vst H locs ws S
  unfold zo_ifR at hs
  split at hs
  · rename_i al a st h
    obtain ⟨v, t9, rfl, h1, h2⟩ := zr2_cons S.2.1
    obtain ⟨x, rfl, hx⟩ := zint h1
    have hdc := hf a.1 x hx.1
    have S' := zSat_st S h2
    split at hs
    · rename_i hd
      rw [hd] at hdc
      exact row _ _ _ _ _ _ _ (fun q => hgo _ _ hs fv hfv ls _ H locs ws S') (fun q => absurd (hdc.1 rfl) q)
    · rename_i hd
      rw [hd] at hdc
      exact row _ _ _ _ _ _ _ (fun q => absurd q (hdc.2 rfl)) (fun q => hgo _ _ hs fv hfv ls _ H locs ws S')
    · rw [Bool.and_eq_true] at hs
      have hr := hrf a.1 x hx.1
      obtain ⟨⟨lv, l1, l2⟩, S2⟩ := S'
      refine row _ _ _ _ _ _ _ (fun q => ?_) (fun q => ?_)
      · exact zGo_bT hgo hfv hs.1 ⟨⟨lv, l1, znL_ok (hr.1 q) hx.2 l2⟩, S2⟩
      · exact zGo_bT hgo hfv hs.2 ⟨⟨lv, l1, znL_ok (hr.2 q) hx.2 l2⟩, S2⟩
  · cases hs
end ZNAMES
