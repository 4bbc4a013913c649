/-! ROWS OF THINGS in two levels, sixteen to a row (short ways for the kernel) -/
noncomputable def zget {α : Type} (l : List α) : Nat → Option α := List.rec (motive := fun _ => Nat → Option α) (fun _ => none) (fun a _ ih n => Nat.casesOn (motive := fun _ => Option α) n (some a) ih) l
theorem zget_eq {α : Type} (l : List α) : ∀ n, zget l n = l[n]? := by
  induction l with
  | nil => intro n; simp [zget]
  | cons a t ih =>
    intro n
    cases n with
    | zero => rfl
    | succ k => rw [List.getElem?_cons_succ, ← ih k]; rfl
noncomputable def zset {α : Type} (l : List α) (x : α) : Nat → List α := List.rec (motive := fun _ => Nat → List α) (fun _ => []) (fun a t ih n => Nat.casesOn (motive := fun _ => List α) n (x :: t) (fun k => a :: ih k)) l
theorem zset_eq {α : Type} (l : List α) (x : α) : ∀ n, zset l x n = l.set n x := by
  induction l with
  | nil => intro n; rfl
  | cons a t ih =>
    intro n
    cases n with
    | zero => rfl
    | succ k => rw [List.set_cons_succ, ← ih k]; rfl
abbrev zR (α : Type) : Type := List (List α)
noncomputable def zrget {α : Type} (r : zR α) (i : Nat) : Option α := match zget r (i / 16) with
  | none => none
  | some c => zget c (i % 16)
noncomputable def zrset {α : Type} (r : zR α) (i : Nat) (x : α) : zR α := match zget r (i / 16) with
  | none => r
  | some c => zset r (zset c x (i % 16)) (i / 16)
theorem zrget_set {α : Type} {r : zR α} {i : Nat} {x y : α} (h : zrget r i = some y) (j : Nat) : zrget (zrset r i x) j = if j = i then some x else zrget r j := by
  unfold zrget at h
  cases hc : zget r (i / 16) with
  | none => rw [hc] at h; cases h
  | some c =>
    rw [hc] at h
    have h : zget c (i % 16) = some y := h
    rw [zget_eq] at hc h
    have hl := (List.getElem?_eq_some_iff.mp h).1
    have hl2 := (List.getElem?_eq_some_iff.mp hc).1
    unfold zrset
    rw [zget_eq, hc]
    dsimp only
    rw [zset_eq, zset_eq]
    unfold zrget
    rw [zget_eq, List.getElem?_set]
    by_cases e1 : i / 16 = j / 16
    · rw [if_pos e1, if_pos hl2]
      dsimp only
      rw [zget_eq, List.getElem?_set]
      by_cases e2 : i % 16 = j % 16
      · rw [if_pos e2, if_pos hl, if_pos (by omega)]
      · rw [if_neg e2, if_neg (by omega), zget_eq, ← e1, hc]
        dsimp only
        rw [zget_eq]
    · rw [if_neg e1, if_neg (by omega), zget_eq]
noncomputable def zrmk {α : Type} (n : Nat) (a : α) : zR α := List.replicate (n / 16 + 1) (List.replicate 16 a)
theorem zrmk_get {α : Type} {n i : Nat} {a : α} (h : i < n) : zrget (zrmk n a) i = some a := by
  unfold zrget zrmk
  rw [zget_eq, List.getElem?_replicate, if_pos (by omega)]
  dsimp only
  rw [zget_eq, List.getElem?_replicate, if_pos (by omega)]
/-! VALUES: an int or a long between bounds, a cell by its place in the world, null, the script's row, a text that is a constant -/
abbrev zT : Type := Option (Nat × Int)
abbrev zN : Type := zI × zT
abbrev zAV : Type := zN ⊕ (zI ⊕ (Nat ⊕ (Bool ⊕ Nat)))
/-- what lies outside the world: where the script is, where a constant text is, what the named ints are -/
abbrev zO : Type := Nat × (Nat → Nat) × (Nat → Int32)
/-- a named int and so much more (with the machine's wrap-around) -/
def ztg (f : Nat → Int32) (t : zT) (x : Int32) : Prop := match t with
  | none => True
  | some q => if q.1 < 1000 then x = f q.1 + Int32.ofInt q.2 else x.toInt ≤ (f (q.1 - 1000)).toInt + q.2
def zg (o : zO) (ad : Nat → Option Nat) (a : zAV) (v : Value) : Prop := match a with
  | .inl q => ∃ x : Int32, v = .int x ∧ zmem q.1 x.toInt ∧ ztg o.2.2 q.2 x
  | .inr (.inl q) => ∃ x : Int64, v = .long x ∧ zmem q x.toInt
  | .inr (.inr (.inl k)) => ∃ q, ad k = some q ∧ v = .ref q
  | .inr (.inr (.inr (.inl t))) => if t = true then v = .ref o.1 else v = .null
  | .inr (.inr (.inr (.inr k))) => (k < 100 → v = .ref (o.2.1 k)) ∧ (v = .null ∨ ∃ q, v = .ref q)
/-- the same of what lies in the heap: no names there -/
def zgH (o : zO) (ad : Nat → Option Nat) (a : zAV) (v : Value) : Prop := match a with
  | .inl q => ∃ x : Int32, v = .int x ∧ zmem q.1 x.toInt
  | .inr (.inl q) => ∃ x : Int64, v = .long x ∧ zmem q x.toInt
  | .inr (.inr (.inl k)) => ∃ q, ad k = some q ∧ v = .ref q
  | .inr (.inr (.inr (.inl t))) => if t = true then v = .ref o.1 else v = .null
  | .inr (.inr (.inr (.inr k))) => (k < 100 → v = .ref (o.2.1 k)) ∧ (v = .null ∨ ∃ q, v = .ref q)
def zstrip (a : zAV) : zAV := match a with
  | .inl q => .inl (q.1, none)
  | .inr q => .inr q
theorem zgH_of {o : zO} {ad : Nat → Option Nat} {a : zAV} {v : Value} (h : zg o ad a v) : zgH o ad a v := by
  rcases a with q | q | k | t | k
  · obtain ⟨x, h1, h2, -⟩ := h; exact ⟨x, h1, h2⟩
  · exact h
  · exact h
  · exact h
  · exact h
theorem zg_strip {o : zO} {ad : Nat → Option Nat} {a : zAV} {v : Value} (h : zgH o ad a v) : zg o ad (zstrip a) v := by
  rcases a with q | q | k | t | k
  · obtain ⟨x, h1, h2⟩ := h; exact ⟨x, h1, h2, trivial⟩
  · exact h
  · exact h
  · exact h
  · exact h
theorem zstrip_H {o : zO} {ad : Nat → Option Nat} {a : zAV} {v : Value} (h : zgH o ad a v) : zgH o ad (zstrip a) v := by
  rcases a with q | q | k | t | k <;> exact h
def zcat (a : zAV) : Nat := match a with
  | .inr (.inl _) => 2
  | _ => 1
theorem zg_cat {o : zO} {ad : Nat → Option Nat} {a : zAV} {v : Value} (h : zg o ad a v) : v.category = zcat a := by
  rcases a with q | q | k | t | k
  · obtain ⟨x, rfl, -⟩ := h; rfl
  · obtain ⟨x, rfl, -⟩ := h; rfl
  · obtain ⟨q, -, rfl⟩ := h; rfl
  · cases t with
    | true => have h : v = .ref o.1 := h; subst h; rfl
    | false => have h : v = .null := h; subst h; rfl
  · obtain ⟨-, rfl | ⟨q, rfl⟩⟩ := h <;> rfl
def zsub (ad ad' : Nat → Option Nat) : Prop := ∀ k q, ad k = some q → ad' k = some q
theorem zg_mono {o : zO} {ad ad' : Nat → Option Nat} (hs : zsub ad ad') {a : zAV} {v : Value} (h : zg o ad a v) : zg o ad' a v := by
  rcases a with q | q | k | t | k
  · exact h
  · exact h
  · obtain ⟨q, h1, h2⟩ := h; exact ⟨q, hs k q h1, h2⟩
  · exact h
  · exact h
theorem zgH_mono {o : zO} {ad ad' : Nat → Option Nat} (hs : zsub ad ad') {a : zAV} {v : Value} (h : zgH o ad a v) : zgH o ad' a v := by
  rcases a with q | q | k | t | k
  · exact h
  · exact h
  · obtain ⟨q, h1, h2⟩ := h; exact ⟨q, hs k q h1, h2⟩
  · exact h
  · exact h
def zr2 {α β : Type} (R : α → β → Prop) : List α → List β → Prop
  | [], [] => True
  | a :: s, b :: t => R a b ∧ zr2 R s t
  | [], _ :: _ => False
  | _ :: _, [] => False
theorem zr2_imp {α β : Type} {R S : α → β → Prop} (h : ∀ a b, R a b → S a b) : ∀ {s : List α} {t : List β}, zr2 R s t → zr2 S s t
  | [], [], _ => trivial
  | _ :: _, _ :: _, q => ⟨h _ _ q.1, zr2_imp h q.2⟩
  | [], _ :: _, q => q.elim
  | _ :: _, [], q => q.elim
theorem zr2_get {α β : Type} {R : α → β → Prop} : ∀ {s : List α} {t : List β} (k : Nat) {a : α}, zr2 R s t → s[k]? = some a → ∃ b, t[k]? = some b ∧ R a b
  | [], [], k, _, _, h => by simp at h
  | x :: s, y :: t, 0, a, q, h => by cases h; exact ⟨y, rfl, q.1⟩
  | x :: s, y :: t, k + 1, a, q, h => zr2_get k q.2 h
  | [], _ :: _, _, _, q, _ => q.elim
  | _ :: _, [], _, _, q, _ => q.elim
theorem zr2_set {α β : Type} {R : α → β → Prop} : ∀ {s : List α} {t : List β} (k : Nat) {a : α} {b : β}, zr2 R s t → R a b → zr2 R (s.set k a) (t.set k b)
  | [], [], k, _, _, _, _ => trivial
  | x :: s, y :: t, 0, a, b, q, h => ⟨h, q.2⟩
  | x :: s, y :: t, k + 1, a, b, q, h => ⟨q.1, zr2_set k q.2 h⟩
  | [], _ :: _, _, _, _, q, _ => q.elim
  | _ :: _, [], _, _, _, q, _ => q.elim
theorem zr2_len {α β : Type} {R : α → β → Prop} : ∀ {s : List α} {t : List β}, zr2 R s t → s.length = t.length
  | [], [], _ => rfl
  | _ :: _, _ :: _, q => by rw [List.length_cons, List.length_cons, zr2_len q.2]
  | [], _ :: _, q => q.elim
  | _ :: _, [], q => q.elim
theorem zr2_app {α β : Type} {R : α → β → Prop} : ∀ {s : List α} {t : List β} {s2 : List α} {t2 : List β}, zr2 R s t → zr2 R s2 t2 → zr2 R (s ++ s2) (t ++ t2)
  | [], [], _, _, _, h => h
  | _ :: _, _ :: _, _, _, q, h => ⟨q.1, zr2_app q.2 h⟩
  | [], _ :: _, _, _, q, _ => q.elim
  | _ :: _, [], _, _, q, _ => q.elim
theorem zr2_cons {α β : Type} {R : α → β → Prop} {a : α} {s : List α} {t : List β} (h : zr2 R (a :: s) t) : ∃ b t', t = b :: t' ∧ R a b ∧ zr2 R s t' := by
  cases t with
  | nil => exact h.elim
  | cons b t' => exact ⟨b, t', rfl, h.1, h.2⟩
theorem zr2_nil {α β : Type} {R : α → β → Prop} {t : List β} (h : zr2 R ([] : List α) t) : t = [] := by
  cases t with
  | nil => rfl
  | cons b t' => exact h.elim
/-! LOCALS -/
abbrev zL : Type := List (Nat × zAV)
def zlr (o : zO) (ad : Nat → Option Nat) (x : Nat × zAV) (y : Nat × Value) : Prop := x.1 = y.1 ∧ zg o ad x.2 y.2
def zkeep1 (i : Nat) (q : Nat × zAV) : Bool := !(Nat.beq q.1 i) && !(Nat.beq (q.1 + 1) i && Nat.beq (zcat q.2) 2)
def zkeep2 (i : Nat) (q : Nat × zAV) : Bool := !(Nat.beq q.1 i) && (!(Nat.beq q.1 (i + 1)) && !(Nat.beq (q.1 + 1) i && Nat.beq (zcat q.2) 2))
noncomputable def zfilter (p : Nat × zAV → Bool) (l : zL) : zL := List.rec (motive := fun _ => zL) [] (fun a _ ih => Bool.casesOn (motive := fun _ => zL) (p a) ih (a :: ih)) l
noncomputable def zlook (l : zL) (i : Nat) : Option zAV := List.rec (motive := fun _ => Option zAV) none (fun a _ ih => Bool.casesOn (motive := fun _ => Option zAV) (Nat.beq a.1 i) ih (some a.2)) l
theorem zlook_ok {o : zO} {ad : Nat → Option Nat} {i : Nat} {a : zAV} : ∀ {al : zL} {l : List (Nat × Value)}, zr2 (zlr o ad) al l → zlook al i = some a → ∃ (k : Nat) (v : Value), l[k]? = some (i, v) ∧ zg o ad a v
  | [], [], _, h => by cases h
  | x :: al, y :: l, q, h => by
    by_cases hx : Nat.beq x.1 i = true
    · have e : zlook (x :: al) i = some x.2 := by show Bool.casesOn (motive := fun _ => Option zAV) (Nat.beq x.1 i) (zlook al i) (some x.2) = _; rw [hx]
      rw [e] at h
      cases h
      have hi : x.1 = i := Nat.eq_of_beq_eq_true hx
      refine ⟨0, y.2, ?_, q.1.2⟩
      show some y = some (i, y.2)
      rw [← hi, q.1.1]
    · have hx : Nat.beq x.1 i = false := Bool.eq_false_iff.mpr hx
      have e : zlook (x :: al) i = zlook al i := by show Bool.casesOn (motive := fun _ => Option zAV) (Nat.beq x.1 i) (zlook al i) (some x.2) = _; rw [hx]
      rw [e] at h
      obtain ⟨k, v, h1, h2⟩ := zlook_ok q.2 h
      exact ⟨k + 1, v, h1, h2⟩
  | [], _ :: _, q, _ => q.elim
  | _ :: _, [], q, _ => q.elim
theorem zfilter_ok {o : zO} {ad : Nat → Option Nat} {p : Nat × zAV → Bool} {p' : Nat × Value → Bool} (hp : ∀ x y, zlr o ad x y → p x = p' y) : ∀ {al : zL} {l : List (Nat × Value)}, zr2 (zlr o ad) al l → zr2 (zlr o ad) (zfilter p al) (l.filter p')
  | [], [], _ => trivial
  | x :: al, y :: l, q => by
    have hh := hp x y q.1
    have ih := zfilter_ok hp q.2
    by_cases hx : p x = true
    · have e : zfilter p (x :: al) = x :: zfilter p al := by show Bool.casesOn (motive := fun _ => zL) (p x) (zfilter p al) (x :: zfilter p al) = _; rw [hx]
      rw [e, List.filter_cons_of_pos (by rw [← hh]; exact hx)]
      exact ⟨q.1, ih⟩
    · have hx : p x = false := Bool.eq_false_iff.mpr hx
      have e : zfilter p (x :: al) = zfilter p al := by show Bool.casesOn (motive := fun _ => zL) (p x) (zfilter p al) (x :: zfilter p al) = _; rw [hx]
      rw [e, List.filter_cons_of_neg (by rw [← hh, hx]; exact fun h => by cases h)]
      exact ih
  | [], _ :: _, q => q.elim
  | _ :: _, [], q => q.elim
theorem zbeq (a b : Nat) : Nat.beq a b = (a == b) := by
  by_cases h : a = b
  · subst h; simp [Nat.beq_refl]
  · rw [beq_eq_false_iff_ne.mpr h]
    cases hb : Nat.beq a b with
    | false => rfl
    | true => exact absurd (Nat.eq_of_beq_eq_true hb) h
theorem zkeep1_ok {o : zO} {ad : Nat → Option Nat} {i : Nat} (x : Nat × zAV) (y : Nat × Value) (h : zlr o ad x y) : zkeep1 i x = (!(y.1 == i) && !(y.1 + 1 == i && y.2.category == 2)) := by
  unfold zkeep1
  rw [zbeq, zbeq, zbeq, h.1, zg_cat h.2]
theorem zkeep2_ok {o : zO} {ad : Nat → Option Nat} {i : Nat} (x : Nat × zAV) (y : Nat × Value) (h : zlr o ad x y) : zkeep2 i x = (!(y.1 == i) && (!(y.1 == i + 1) && !(y.1 + 1 == i && y.2.category == 2))) := by
  unfold zkeep2
  rw [zbeq, zbeq, zbeq, zbeq, h.1, zg_cat h.2]
/-! THE WORLD'S CELLS -/
abbrev zC : Type := (Nat × Nat × zR zAV) ⊕ (Nat × List zAV)
/-- cells: arrays (type, length, elements; or, with an empty first row, one bound for all), objects; how many; which slots have changed (bits 64 k + j) -/
abbrev zH : Type := Nat × zR zC × Nat
noncomputable def zaget (r : zR zAV) (i : Nat) : Option zAV := match r with
  | [] :: (a :: _) :: _ => some a
  | _ => zrget r i
def zty (cl : List vw_C) (t : Nat) : FieldType := match t with
  | 0 => .int
  | 1 => .long
  | 2 => .boolean
  | 3 => .byte
  | n + 4 => .object (match cl[n]? with | some q => q.1 | none => "")
def zad (ws : va_W) (k : Nat) : Option Nat := match ws[k]? with
  | some q => some q.1
  | none => none
def zae (o : zO) (ad : Nat → Option Nat) (t n : Nat) (r : zR zAV) (cA : ClassId) (e : va_E) : Prop := match t with
  | 1 => ∃ f : Nat → Int64, e = .inl (cA, n, .inr (.inl f)) ∧ ∀ i, i < n → ∃ a, zaget r i = some a ∧ zgH o ad a (.long (f i))
  | 0 => ∃ f : Nat → Int32, e = .inl (cA, n, .inl f) ∧ ∀ i, i < n → ∃ a, zaget r i = some a ∧ zgH o ad a (.int (f i))
  | 2 => ∃ f : Nat → Int32, e = .inl (cA, n, .inl f) ∧ ∀ i, i < n → ∃ a, zaget r i = some a ∧ zgH o ad a (.int (f i))
  | 3 => ∃ f : Nat → Int32, e = .inl (cA, n, .inl f) ∧ ∀ i, i < n → ∃ a, zaget r i = some a ∧ zgH o ad a (.int (f i))
  | _ + 4 => ∃ f : Nat → Option Nat, e = .inl (cA, n, .inr (.inr (.inr (.inr f)))) ∧ ∀ i, i < n → ∃ a, zaget r i = some a ∧ zgH o ad a (va_rf (f i))
def zcr (cl : List vw_C) (tys : List (ClassId × FieldType)) (o : zO) (ad : Nat → Option Nat) (c : zC) (e : va_E) : Prop := match c with
  | .inr q => ∃ vs, e = .inr (q.1, vs) ∧ zr2 (zgH o ad) q.2 vs
  | .inl q => ∃ cA, (cA, zty cl q.1) ∈ tys ∧ zae o ad q.1 q.2.1 q.2.2 cA e
theorem zae_mono {o : zO} {ad ad' : Nat → Option Nat} (hs : zsub ad ad') {t n : Nat} {r : zR zAV} {cA : ClassId} {e : va_E} (h : zae o ad t n r cA e) : zae o ad' t n r cA e := by
  match t, h with
  | 0, ⟨f, h1, h2⟩ => exact ⟨f, h1, fun i hi => by obtain ⟨a, q1, q2⟩ := h2 i hi; exact ⟨a, q1, zgH_mono hs q2⟩⟩
  | 1, ⟨f, h1, h2⟩ => exact ⟨f, h1, fun i hi => by obtain ⟨a, q1, q2⟩ := h2 i hi; exact ⟨a, q1, zgH_mono hs q2⟩⟩
  | 2, ⟨f, h1, h2⟩ => exact ⟨f, h1, fun i hi => by obtain ⟨a, q1, q2⟩ := h2 i hi; exact ⟨a, q1, zgH_mono hs q2⟩⟩
  | 3, ⟨f, h1, h2⟩ => exact ⟨f, h1, fun i hi => by obtain ⟨a, q1, q2⟩ := h2 i hi; exact ⟨a, q1, zgH_mono hs q2⟩⟩
  | _ + 4, ⟨f, h1, h2⟩ => exact ⟨f, h1, fun i hi => by obtain ⟨a, q1, q2⟩ := h2 i hi; exact ⟨a, q1, zgH_mono hs q2⟩⟩
theorem zcr_mono {cl : List vw_C} {tys : List (ClassId × FieldType)} {o : zO} {ad ad' : Nat → Option Nat} (hs : zsub ad ad') {c : zC} {e : va_E} (h : zcr cl tys o ad c e) : zcr cl tys o ad' c e := by
  cases c with
  | inr q => obtain ⟨vs, h1, h2⟩ := h; exact ⟨vs, h1, zr2_imp (fun a b q => zgH_mono hs q) h2⟩
  | inl q => obtain ⟨cA, h1, h2⟩ := h; exact ⟨cA, h1, zae_mono hs h2⟩
def zwr (cl : List vw_C) (tys : List (ClassId × FieldType)) (o : zO) (h : zH) (ws : va_W) : Prop := ws.length = h.1 ∧ ∀ k, k < h.1 → ∃ c a e, zrget h.2.1 k = some c ∧ ws[k]? = some (a, e) ∧ zcr cl tys o (zad ws) c e
theorem zad_some {ws : va_W} {k q : Nat} (h : zad ws k = some q) : ∃ e, ws[k]? = some (q, e) := by
  unfold zad at h
  split at h
  · rename_i x hx
    cases h
    exact ⟨x.2, hx⟩
  · cases h
theorem zad_of {ws : va_W} {k q : Nat} {e : va_E} (h : ws[k]? = some (q, e)) : zad ws k = some q := by
  unfold zad; rw [h]
theorem zwr_at {cl : List vw_C} {tys : List (ClassId × FieldType)} {o : zO} {h : zH} {ws : va_W} (w : zwr cl tys o h ws) {k q : Nat} (hk : zad ws k = some q) {c : zC} (hc : zrget h.2.1 k = some c) : ∃ e, ws[k]? = some (q, e) ∧ zcr cl tys o (zad ws) c e := by
  obtain ⟨e, he⟩ := zad_some hk
  have hl := (List.getElem?_eq_some_iff.mp he).1
  obtain ⟨c', a, e', h1, h2, h3⟩ := w.2 k (by rw [← w.1]; exact hl)
  rw [hc] at h1
  cases h1
  rw [he] at h2
  cases h2
  exact ⟨e, he, h3⟩
theorem zad_set {ws : va_W} {k q : Nat} {e e' : va_E} (h : ws[k]? = some (q, e)) : zad (ws.set k (q, e')) = zad ws := by
  funext j
  unfold zad
  rw [List.getElem?_set]
  by_cases hj : k = j
  · subst hj
    rw [if_pos rfl, if_pos (List.getElem?_eq_some_iff.mp h).1, h]
  · rw [if_neg hj]
theorem zwr_set {d : Nat} {cl : List vw_C} {tys : List (ClassId × FieldType)} {o : zO} {h : zH} {ws : va_W} (w : zwr cl tys o h ws) {k q : Nat} {e e' : va_E} (he : ws[k]? = some (q, e)) {c c' : zC} (hc : zrget h.2.1 k = some c) (hr : zcr cl tys o (zad ws) c' e') : zwr cl tys o (h.1, zrset h.2.1 k c', d) (ws.set k (q, e')) := by
  refine ⟨by rw [List.length_set]; exact w.1, fun j hj => ?_⟩
  rw [zad_set he]
  obtain ⟨c1, a, e1, h1, h2, h3⟩ := w.2 j hj
  dsimp only
  rw [zrget_set hc, List.getElem?_set]
  by_cases hjk : j = k
  · subst hjk
    rw [if_pos rfl, if_pos rfl, if_pos (List.getElem?_eq_some_iff.mp he).1]
    exact ⟨c', q, e', rfl, rfl, hr⟩
  · rw [if_neg hjk, if_neg (fun h => hjk h.symm)]
    exact ⟨c1, a, e1, h1, h2, h3⟩
theorem zsub_push {ws : va_W} {x : Nat × va_E} : zsub (zad ws) (zad (ws ++ [x])) := by
  intro k q hk
  obtain ⟨e, he⟩ := zad_some hk
  exact zad_of (e := e) (by rw [List.getElem?_append_left (List.getElem?_eq_some_iff.mp he).1]; exact he)
theorem zwr_push {d : Nat} {cl : List vw_C} {tys : List (ClassId × FieldType)} {o : zO} {h : zH} {ws : va_W} (w : zwr cl tys o h ws) {q : Nat} {e' : va_E} {c c' : zC} (hc : zrget h.2.1 h.1 = some c) (hr : zcr cl tys o (zad (ws ++ [(q, e')])) c' e') : zwr cl tys o (h.1 + 1, zrset h.2.1 h.1 c', d) (ws ++ [(q, e')]) := by
  refine ⟨by rw [List.length_append, w.1]; rfl, fun j hj => ?_⟩
  dsimp only at hj ⊢
  rw [zrget_set hc]
  by_cases hjk : j = h.1
  · subst hjk
    rw [if_pos rfl, List.getElem?_append_right (by rw [w.1]; exact Nat.le_refl _), w.1, Nat.sub_self]
    exact ⟨c', q, e', rfl, rfl, hr⟩
  · rw [if_neg hjk]
    obtain ⟨c1, a, e1, h1, h2, h3⟩ := w.2 j (by omega)
    exact ⟨c1, a, e1, h1, by rw [List.getElem?_append_left (List.getElem?_eq_some_iff.mp h2).1]; exact h2, zcr_mono zsub_push h3⟩
theorem zad_push {ws : va_W} {q : Nat} {e : va_E} {n : Nat} (h : ws.length = n) : zad (ws ++ [(q, e)]) n = some q := by
  refine zad_of (e := e) ?_
  rw [List.getElem?_append_right (by rw [h]; exact Nat.le_refl _), h, Nat.sub_self]
  rfl
theorem zsub_trans {a b c : Nat → Option Nat} (h1 : zsub a b) (h2 : zsub b c) : zsub a c := fun k q hk => h2 k q (h1 k q hk)
/-! WHAT HAS CHANGED since a method's start: slots by bits -/
def zbit (d k j : Nat) : Bool := Nat.testBit d (64 * k + j)
def zdirt (d k j : Nat) : Nat := Nat.lor d (Nat.shiftLeft 1 (64 * k + j))
theorem zdirt_self (d k j : Nat) : zbit (zdirt d k j) k j = true := by
  show (d ||| 1 <<< (64 * k + j)).testBit (64 * k + j) = true
  simp [Nat.testBit_or, Nat.testBit_shiftLeft]
theorem zdirt_mono {d k j k' j' : Nat} (h : zbit (zdirt d k j) k' j' = false) : zbit d k' j' = false := by
  have h : (d ||| 1 <<< (64 * k + j)).testBit (64 * k' + j') = false := h
  rw [Nat.testBit_or, Bool.or_eq_false_iff] at h
  exact h.1
theorem zlor_mono {d d' k j : Nat} (h : zbit (Nat.lor d d') k j = false) : zbit d k j = false ∧ zbit d' k j = false := by
  have h : (d ||| d').testBit (64 * k + j) = false := h
  rw [Nat.testBit_or, Bool.or_eq_false_iff] at h
  exact h
/-- a cell then and now, the slots of m aside -/
def zfe (m : Nat → Bool) (e e' : va_E) : Prop := match e with
  | .inl x => ∃ x', e' = .inl x' ∧ (m 0 = false → x' = x)
  | .inr q => ∃ vs', e' = .inr (q.1, vs') ∧ vs'.length = q.2.length ∧ ∀ j, m j = false → vs'[j]? = q.2[j]?
theorem zfe_rf {m : Nat → Bool} (e : va_E) : zfe m e e := by
  cases e with
  | inl x => exact ⟨x, rfl, fun _ => rfl⟩
  | inr q => exact ⟨q.2, rfl, rfl, fun _ _ => rfl⟩
theorem zfe_tr {m m' m'' : Nat → Bool} (hm : ∀ j, m'' j = false → m j = false ∧ m' j = false) {e e' e'' : va_E} (h : zfe m e e') (h' : zfe m' e' e'') : zfe m'' e e'' := by
  cases e with
  | inl x =>
    obtain ⟨x', rfl, h1⟩ := h
    obtain ⟨x'', rfl, h2⟩ := h'
    exact ⟨x'', rfl, fun q => (h2 (hm 0 q).2).trans (h1 (hm 0 q).1)⟩
  | inr q =>
    obtain ⟨vs', rfl, h1, h2⟩ := h
    obtain ⟨vs'', rfl, h3, h4⟩ := h'
    exact ⟨vs'', rfl, h3.trans h1, fun j hj => (h4 j (hm j hj).2).trans (h2 j (hm j hj).1)⟩
def zcg (d : Nat) (ws0 ws : va_W) : Prop := ∀ (k a : Nat) (e : va_E), ws0[k]? = some (a, e) → ∃ e', ws[k]? = some (a, e') ∧ zfe (zbit d k) e e'
theorem zcg_rf {d : Nat} {ws : va_W} : zcg d ws ws := fun k a e h => ⟨e, h, zfe_rf e⟩
theorem zcg_sub {d : Nat} {ws0 ws : va_W} (h : zcg d ws0 ws) : zsub (zad ws0) (zad ws) := by
  intro k q hk
  obtain ⟨e, he⟩ := zad_some hk
  obtain ⟨e', h1, -⟩ := h k q e he
  exact zad_of h1
theorem zcg_tr {d d' : Nat} {ws0 ws ws' : va_W} (h : zcg d ws0 ws) (h' : zcg d' ws ws') : zcg (Nat.lor d d') ws0 ws' := by
  intro k a e he
  obtain ⟨e', h1, h2⟩ := h k a e he
  obtain ⟨e'', h3, h4⟩ := h' k a e' h1
  exact ⟨e'', h3, zfe_tr (fun j hj => zlor_mono hj) h2 h4⟩
/-- a slot of an object changes -/
theorem zcg_obj {d : Nat} {ws0 ws : va_W} {k j a ci : Nat} {vs : List Value} {v : Value} (h : zcg d ws0 ws) (hk : ws[k]? = some (a, .inr (ci, vs))) : zcg (zdirt d k j) ws0 (ws.set k (a, .inr (ci, vs.set j v))) := by
  intro k' a' e he
  obtain ⟨e', h1, h2⟩ := h k' a' e he
  rw [List.getElem?_set]
  by_cases hkk : k = k'
  · subst hkk
    rw [if_pos rfl, if_pos (List.getElem?_eq_some_iff.mp hk).1]
    rw [hk] at h1
    cases h1
    refine ⟨_, rfl, zfe_tr (m' := fun q => Nat.beq q j) (fun q hq => ⟨zdirt_mono hq, ?_⟩) h2 ⟨vs.set j v, rfl, by rw [List.length_set], fun q hq => ?_⟩⟩
    · cases hb : Nat.beq q j with
      | false => rfl
      | true =>
        have e := Nat.eq_of_beq_eq_true hb
        subst e
        rw [zdirt_self] at hq
        cases hq
    · rw [List.getElem?_set, if_neg]
      intro e
      subst e
      have hq : Nat.beq j j = false := hq
      rw [Nat.beq_refl] at hq
      cases hq
  · rw [if_neg hkk]
    exact ⟨e', h1, zfe_tr (m' := fun _ => false) (fun q hq => ⟨zdirt_mono hq, rfl⟩) h2 (zfe_rf e')⟩
/-- an array changes -/
theorem zcg_arr {d : Nat} {ws0 ws : va_W} {k a : Nat} {x x' : ClassId × vp_A} (h : zcg d ws0 ws) (hk : ws[k]? = some (a, .inl x)) : zcg (zdirt d k 0) ws0 (ws.set k (a, .inl x')) := by
  intro k' a' e he
  obtain ⟨e', h1, h2⟩ := h k' a' e he
  rw [List.getElem?_set]
  by_cases hkk : k = k'
  · subst hkk
    rw [if_pos rfl, if_pos (List.getElem?_eq_some_iff.mp hk).1]
    rw [hk] at h1
    cases h1
    refine ⟨_, rfl, ?_⟩
    cases e with
    | inr q => obtain ⟨vs', hq, -⟩ := h2; cases hq
    | inl y =>
      refine ⟨x', rfl, fun q => ?_⟩
      rw [zdirt_self] at q
      cases q
  · rw [if_neg hkk]
    exact ⟨e', h1, zfe_tr (m' := fun _ => false) (fun q hq => ⟨zdirt_mono hq, rfl⟩) h2 (zfe_rf e')⟩
/-- a cell more -/
theorem zcg_push {d : Nat} {ws0 ws : va_W} {x : Nat × va_E} (h : zcg d ws0 ws) : zcg d ws0 (ws ++ [x]) := by
  intro k a e he
  obtain ⟨e', h1, h2⟩ := h k a e he
  exact ⟨e', by rw [List.getElem?_append_left (List.getElem?_eq_some_iff.mp h1).1]; exact h1, h2⟩
theorem zdirt_w {d k j : Nat} {ws0 ws : va_W} (h : zcg d ws0 ws) : zcg (zdirt d k j) ws0 ws := by
  intro k' a e he
  obtain ⟨e', h1, h2⟩ := h k' a e he
  exact ⟨e', h1, zfe_tr (m' := fun _ => false) (fun q hq => ⟨zdirt_mono hq, rfl⟩) h2 (zfe_rf e')⟩
/-! A WALK'S STATE: locals, stack, cells, how many cells and slots were made -/
abbrev zK : Type := zL × List zAV × zH × Nat × Nat
abbrev zRt : Type := Option zAV → zH → Bool
abbrev zCall : Type := Nat → List zAV → zH → zRt → Bool
abbrev zSem : Type := zCall → zRt → (Nat → zK → Bool) → zK → Bool
abbrev zCode : Type := zR (Option zSem)
/-- a method: its name, bytes, locals, answer, cells and slots that it may make, its walk -/
abbrev zM : Type := MethodName × ByteArray × Nat × Option FieldType × Nat × Nat × zCode
def zA (z : Nat) : Nat → Prop := fun q => z ≤ q
/-! what was reckoned is looked at at once, so that nothing long is put off -/
def zfi (q : zI) (b : Bool) : Bool := match zle q.1 q.2 with
  | true => b
  | false => false
theorem zfi_ok {q : zI} {b : Bool} (h : zfi q b = true) : b = true := by
  unfold zfi at h
  split at h
  · exact h
  · cases h
noncomputable def zfr {α : Type} (r : zR α) (i : Nat) (b : Bool) : Bool := match zrget r i with
  | some _ => b
  | none => false
theorem zfr_ok {α : Type} {r : zR α} {i : Nat} {b : Bool} (h : zfr r i b = true) : b = true := by
  unfold zfr at h
  split at h
  · exact h
  · cases h
def zSat (D : va_G) (cl : List vw_C) (tys : List (ClassId × FieldType)) (o : zO) (z : Nat) (ws0 : va_W) (nL : Nat) (H0 : Heap) (c : zK) (ls : Array Slot) (vst : List Value) (H : Heap) (locs : List Loc) (ws : va_W) : Prop :=
  (∃ lv, lv_has ls nL lv ∧ zr2 (zlr o (zad ws)) c.1 lv) ∧ zr2 (zg o (zad ws)) c.2.1 vst ∧ zwr cl tys o c.2.2.1 ws ∧ va_P D cl ws H ∧ va_D (zA z) ws ∧ va_S (zA z) H0 H locs ∧ zcg c.2.2.1.2.2 ws0 ws
/-- the same place with other names -/
def zwith (o : zO) (f : Nat → Int32) : zO := (o.1, o.2.1, f)
/-- names below 100 stay as they are till the next head of a loop -/
def zag (g f : Nat → Int32) : Prop := ∀ n, n < 100 → f n = g n
def zGo (p : Program) (l : Launch) (e : Env) (R : Room) (s : State) (m : MethodId) (args : Array Value) (below : List Frame) (meth : Method) (c0 : Code) (Q : State → Prop) (D : va_G) (cl : List vw_C) (tys : List (ClassId × FieldType)) (o : zO) (z : Nat) (ws0 : va_W) (nL : Nat) (pc : Nat) (c : zK) : Prop :=
  ∀ (f : Nat → Int32), zag o.2.2 f → ∀ (ls : Array Slot) (vst : List Value) (H : Heap) (locs : List Loc) (ws : va_W), zSat D cl tys (zwith o f) z ws0 nL s.heap c ls vst H locs ws → W p l e R s m args below meth c0 H locs c.2.2.2.1 c.2.2.2.2 Q (F0 m pc ls vst)
/-- a method's start: its world -/
def zSt (D : va_G) (cl : List vw_C) (tys : List (ClassId × FieldType)) (o : zO) (z : Nat) (X : State → Heap → Prop) (h : zH) (ws : va_W) (U : State) : Prop :=
  zwr cl tys o h ws ∧ va_P D cl ws U.heap ∧ va_D (zA z) ws ∧ va_K D cl tys U ∧ X U U.heap ∧ z ≤ U.heap.size
def zgo (o : zO) (ad : Nat → Option Nat) (r : Option zAV) (v : Option Value) : Prop := match r, v with
  | none, none => True
  | some a, some w => zgH o ad a w
  | none, some _ => False
  | some _, none => False
/-- a method's end: an answer and a world that the rest of the walk takes -/
def zQ (D : va_G) (cl : List vw_C) (tys : List (ClassId × FieldType)) (o : zO) (z : Nat) (ws : va_W) (k : zRt) : Array Value → State → Outcome → State → Prop := fun _ st oc t =>
  (∃ (r : Option zAV) (v : Option Value) (h : zH) (ws' : va_W), oc = .returned v ∧ zgo o (zad ws') r v ∧ zcg h.2.2 ws ws' ∧ zwr cl tys o h ws' ∧ va_P D cl ws' t.heap ∧ va_D (zA z) ws' ∧ k r h = true) ∧ va_F (zA z) st t
def zMet (l : Launch) (D : va_G) (cl : List vw_C) (tys : List (ClassId × FieldType)) (o : zO) (z : Nat) (X : State → Heap → Prop) (Ts : List Cond) (mr : zM) (fr lo : Nat) (h : zH) (av : List zAV) (k : zRt) : Prop :=
  ∀ (ws : va_W) (vs : List Value), zr2 (zgH o (zad ws)) av vs → Met l mr.1 (.code mr.1 mr.2.1 mr.2.2.1 mr.2.2.2.1 :: Ts) { frames := fr, cells := mr.2.2.2.2.1, slots := mr.2.2.2.2.2.1, locals := lo } (va_Pc vs (zSt D cl tys o z X h ws)) (zQ D cl tys o z ws k) mr.2.2.2.2.1 mr.2.2.2.2.2.1 (zA z)
def zCallOk (l : Launch) (D : va_G) (cl : List vw_C) (tys : List (ClassId × FieldType)) (o : zO) (z : Nat) (X : State → Heap → Prop) (Ts : List Cond) (prog : List zM) (R : Room) (call : zCall) : Prop :=
  ∀ mi mr av h k, zget prog mi = some mr → call mi av h k = true → ∃ fr lo, fr + 1 ≤ R.frames ∧ 8 + (mr.2.2.1 + 11) + lo ≤ R.locals ∧ zMet l D cl tys o z X Ts mr fr lo h av k
/-- where an answer goes, from this activation -/
def zRetI (cc : ByteArray) (ret : Option FieldType) (pc : Nat) (v : Option Value) : Prop := match v with
  | none => ret = none ∧ decode cc pc = .ok (.return_, 1)
  | some w => (∃ x ty, w = .int x ∧ ret = some ty ∧ narrow ty w = w ∧ decode cc pc = .ok (.ireturn, 1)) ∨ (∃ x, w = .long x ∧ ret = some .long ∧ decode cc pc = .ok (.lreturn, 1)) ∨ (∃ x rt, w = .ref x ∧ ret = some rt ∧ ((∃ n, rt = .object n) ∨ ∃ t, rt = .array t) ∧ decode cc pc = .ok (.areturn, 1))
def zRetOk (p : Program) (l : Launch) (e : Env) (R : Room) (s : State) (m : MethodId) (args : Array Value) (below : List Frame) (meth : Method) (c0 : Code) (Q : State → Prop) (D : va_G) (cl : List vw_C) (tys : List (ClassId × FieldType)) (o : zO) (z : Nat) (ws0 : va_W) (cc : ByteArray) (ret : Option FieldType) (rt : zRt) : Prop :=
  ∀ (pc : Nat) (ls : Array Slot) (v : Option Value) (r : Option zAV) (h : zH) (H : Heap) (locs : List Loc) (ws : va_W) (cells slots : Nat), zgo o (zad ws) r v → zwr cl tys o h ws → va_P D cl ws H → va_D (zA z) ws → va_S (zA z) s.heap H locs → zcg h.2.2 ws0 ws → cells ≤ R.cells → slots ≤ R.slots → zRetI cc ret pc v → rt r h = true → W p l e R s m args below meth c0 H locs cells slots Q (F0 m pc ls v.toList)
def zCx (p : Program) (R : Room) (s : State) (m : MethodId) (args : Array Value) (meth : Method) (c0 : Code) (D : va_G) (cl : List vw_C) (tys : List (ClassId × FieldType)) (z : Nat) (X : State → Heap → Prop) (Ts : List Cond) (own : String) (cc : ByteArray) (nL : Nat) (nm : String) : Prop :=
  p.tables.exec = Jvm.exec ∧ c0.code = cc ∧ c0.maxLocals = nL ∧ s.vm.findClass own = some m.cls ∧ (∀ w ∈ Ts, w.before args s = true) ∧ va_K D cl tys s ∧ meth.name = nm ∧ X s s.heap ∧ z ≤ s.heap.size ∧ 1 ≤ R.frames ∧ 200 ≤ R.locals
/-- an instruction's walk is right at this activation -/
def zOp (p : Program) (l : Launch) (e : Env) (R : Room) (s : State) (m : MethodId) (args : Array Value) (below : List Frame) (meth : Method) (c0 : Code) (Q : State → Prop) (D : va_G) (cl : List vw_C) (tys : List (ClassId × FieldType)) (o : zO) (z : Nat) (X : State → Heap → Prop) (Ts : List Cond) (prog : List zM) (ws0 : va_W) (nL : Nat) (cc : ByteArray) (ret : Option FieldType) (pc : Nat) (sem : zSem) : Prop :=
  ∀ (call : zCall) (rt : zRt) (go : Nat → zK → Bool) (c : zK), zCallOk l D cl tys o z X Ts prog R call → zRetOk p l e R s m args below meth c0 Q D cl tys o z ws0 cc ret rt → (∀ pc' c', go pc' c' = true → zGo p l e R s m args below meth c0 Q D cl tys o z ws0 nL pc' c') → sem call rt go c = true → zGo p l e R s m args below meth c0 Q D cl tys o z ws0 nL pc c
