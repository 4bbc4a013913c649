/-! INCLUSION of values, cells and worlds; KNOWN CALLS: what they leave alone stays as the caller has it -/
noncomputable def zl2 {α β : Type} (f : α → β → Bool) (l : List α) : List β → Bool := List.rec (motive := fun _ => List β → Bool) (fun l' => match l' with
  | [] => true
  | _ :: _ => false) (fun a _ ih l' => match l' with
  | [] => false
  | b :: t => match f a b with
    | true => ih t
    | false => false) l
theorem zl2_c {α β : Type} {f : α → β → Bool} {a : α} {l : List α} {l' : List β} (h : zl2 f (a :: l) l' = true) : ∃ b t, l' = b :: t ∧ f a b = true ∧ zl2 f l t = true := by
  cases l' with
  | nil => cases h
  | cons b t =>
    have h : (match f a b with
      | true => zl2 f l t
      | false => false) = true := h
    split at h
    · rename_i hf; exact ⟨b, t, rfl, hf, h⟩
    · cases h
theorem zl2_ok {α β : Type} {f : α → β → Bool} : ∀ {l : List α} {l' : List β}, zl2 f l l' = true → ∀ {k : Nat} {a : α}, l[k]? = some a → ∃ b, l'[k]? = some b ∧ f a b = true
  | [], _, _, k, a, hk => by simp at hk
  | x :: l, l', h, k, a, hk => by
    obtain ⟨b, t, rfl, h1, h2⟩ := zl2_c h
    cases k with
    | zero => cases hk; exact ⟨b, rfl, h1⟩
    | succ k => exact zl2_ok h2 hk
theorem zl2_r {α β γ : Type} {f : α → β → Bool} {R : α → γ → Prop} {R' : β → γ → Prop} (hf : ∀ a b v, f a b = true → R a v → R' b v) : ∀ {l : List α} {l' : List β} {vs : List γ}, zl2 f l l' = true → zr2 R l vs → zr2 R' l' vs
  | [], [], [], _, _ => trivial
  | [], _ :: _, _, h, _ => by cases h
  | x :: l, l', [], h, q => q.elim
  | x :: l, l', v :: vs, h, q => by
    obtain ⟨b, t, rfl, h1, h2⟩ := zl2_c h
    exact ⟨hf _ _ _ h1 q.1, zl2_r hf h2 q.2⟩
  | [], [], _ :: _, _, q => q.elim
theorem zl2_g {α : Type} {f : α → α → Bool} {r r' : zR α} (h : zl2 (zl2 f) r r' = true) {k : Nat} {a : α} (hk : zrget r k = some a) : ∃ b, zrget r' k = some b ∧ f a b = true := by
  unfold zrget at hk
  split at hk
  · cases hk
  · rename_i c hc
    rw [zget_eq] at hc hk
    obtain ⟨c', h1, h2⟩ := zl2_ok h hc
    obtain ⟨b, h3, h4⟩ := zl2_ok h2 hk
    refine ⟨b, ?_, h4⟩
    unfold zrget
    rw [zget_eq, h1]
    dsimp only
    rw [zget_eq]
    exact h3
def zvl (a b : zAV) : Bool := match b with
  | .inr (.inr (.inr (.inr j))) => (match a with
    | .inr (.inr (.inr (.inr k))) => Nat.beq k j || Nat.ble 100 j
    | .inr (.inr (.inl _)) => Nat.ble 100 j
    | .inr (.inr (.inr (.inl _))) => Nat.ble 100 j
    | _ => false)
  | .inr (.inr (.inr (.inl t))) => (match a with
    | .inr (.inr (.inr (.inl t'))) => (match t with
      | true => t'
      | false => !t')
    | _ => false)
  | _ => zvle a b
theorem zvl_ok {o : zO} {ad : Nat → Option Nat} {a b : zAV} {v : Value} (h : zvl a b = true) (hg : zgH o ad a v) : zgH o ad b v := by
  unfold zvl at h
  split at h
  · rename_i j
    split at h
    · rename_i k
      rw [Bool.or_eq_true] at h
      rcases h with h | h
      · have e := Nat.eq_of_beq_eq_true h
        subst e
        exact hg
      · have h := Nat.le_of_ble_eq_true h
        exact ⟨fun q => by omega, hg.2⟩
    · have h := Nat.le_of_ble_eq_true h
      obtain ⟨q, -, rfl⟩ := hg
      exact ⟨fun q => by omega, Or.inr ⟨_, rfl⟩⟩
    · rename_i t
      have h := Nat.le_of_ble_eq_true h
      refine ⟨fun q => by omega, ?_⟩
      cases t with
      | true => exact Or.inr ⟨_, hg⟩
      | false => exact Or.inl hg
    · cases h
  · split at h
    · split at h
      · have h : _ = true := h
        subst h
        exact hg
      · rw [Bool.not_eq_true'] at h
        subst h
        exact hg
    · cases h
  · exact zvle_ok h hg
noncomputable def zall {α : Type} (f : α → Bool) (l : List α) : Bool := List.rec (motive := fun _ => Bool) true (fun a _ ih => match f a with
  | true => ih
  | false => false) l
theorem zall_ok {α : Type} {f : α → Bool} : ∀ {l : List α}, zall f l = true → ∀ {k : Nat} {a : α}, l[k]? = some a → f a = true
  | [], _, k, a, hk => by simp at hk
  | x :: l, h, k, a, hk => by
    have h : (match f x with
      | true => zall f l
      | false => false) = true := h
    split at h
    · rename_i hf
      cases k with
      | zero => cases hk; exact hf
      | succ k => exact zall_ok h hk
    · cases h
theorem zall_g {α : Type} {f : α → Bool} {r : zR α} (h : zall (zall f) r = true) {k : Nat} {a : α} (hk : zrget r k = some a) : f a = true := by
  unfold zrget at hk
  split at hk
  · cases hk
  · rename_i c hc
    rw [zget_eq] at hc hk
    exact zall_ok (zall_ok h hc) hk
noncomputable def zel (r r' : zR zAV) : Bool := match zuni r' with
  | true => (match zaget r' 0 with
    | some b => (match zuni r with
      | true => (match zaget r 0 with
        | some a => zvl a b
        | none => false)
      | false => zall (zall (fun a => zvl a b)) r)
    | none => false)
  | false => (match zuni r with
    | true => false
    | false => zl2 (zl2 zvl) r r')
theorem zel_ok {r r' : zR zAV} (h : zel r r' = true) {i : Nat} {a : zAV} (ha : zaget r i = some a) : ∃ b, zaget r' i = some b ∧ zvl a b = true := by
  unfold zel at h
  split at h
  · rename_i hu'
    split at h
    · rename_i b hb
      refine ⟨b, by rw [zaget_u hu' i 0]; exact hb, ?_⟩
      split at h
      · rename_i hu
        rw [zaget_u hu i 0] at ha
        rw [ha] at h
        exact h
      · rename_i hu
        rw [zaget_n hu] at ha
        exact zall_g h ha
    · cases h
  · rename_i hu'
    split at h
    · cases h
    · rename_i hu
      rw [zaget_n hu] at ha
      rw [zaget_n hu']
      exact zl2_g h ha
noncomputable def zcl (c c' : zC) : Bool := match c with
  | .inr (ci, fs) => (match c' with
    | .inr (cj, fs') => (match Nat.beq ci cj with
      | true => zl2 zvl fs fs'
      | false => false)
    | _ => false)
  | .inl (t, n, r) => (match c' with
    | .inl (t', n', r') => (match Nat.beq t t' && Nat.beq n n' with
      | true => zel r r'
      | false => false)
    | _ => false)
theorem zae_le {o : zO} {ad : Nat → Option Nat} {t n : Nat} {r r' : zR zAV} {cA : ClassId} {e : va_E} (hr : ∀ i a v, zaget r i = some a → zgH o ad a v → ∃ b, zaget r' i = some b ∧ zgH o ad b v) (h : zae o ad t n r cA e) : zae o ad t n r' cA e := by
  match t, h with
  | 0, ⟨f, h1, h2⟩ => exact ⟨f, h1, fun i hi => by obtain ⟨a, q1, q2⟩ := h2 i hi; exact hr i a _ q1 q2⟩
  | 1, ⟨f, h1, h2⟩ => exact ⟨f, h1, fun i hi => by obtain ⟨a, q1, q2⟩ := h2 i hi; exact hr i a _ q1 q2⟩
  | 2, ⟨f, h1, h2⟩ => exact ⟨f, h1, fun i hi => by obtain ⟨a, q1, q2⟩ := h2 i hi; exact hr i a _ q1 q2⟩
  | 3, ⟨f, h1, h2⟩ => exact ⟨f, h1, fun i hi => by obtain ⟨a, q1, q2⟩ := h2 i hi; exact hr i a _ q1 q2⟩
  | _ + 4, ⟨f, h1, h2⟩ => exact ⟨f, h1, fun i hi => by obtain ⟨a, q1, q2⟩ := h2 i hi; exact hr i a _ q1 q2⟩
theorem zcl_ok {cl : List vw_C} {tys : List (ClassId × FieldType)} {o : zO} {ad : Nat → Option Nat} {c c' : zC} {e : va_E} (h : zcl c c' = true) (hr : zcr cl tys o ad c e) : zcr cl tys o ad c' e := by
  unfold zcl at h
  split at h
  · split at h
    · split at h
      · rename_i hb
        have e := Nat.eq_of_beq_eq_true hb
        subst e
        obtain ⟨vs, h1, h2⟩ := hr
        exact ⟨vs, h1, zl2_r (R := zgH o ad) (R' := zgH o ad) (fun a b v q1 q2 => zvl_ok q1 q2) h h2⟩
      · cases h
    · cases h
  · split at h
    · split at h
      · rename_i hb
        rw [Bool.and_eq_true] at hb
        have e1 := Nat.eq_of_beq_eq_true hb.1
        have e2 := Nat.eq_of_beq_eq_true hb.2
        subst e1
        subst e2
        obtain ⟨cA, h1, h2⟩ := hr
        exact ⟨cA, h1, zae_le (fun i a v q1 q2 => by obtain ⟨b, q3, q4⟩ := zel_ok h q1; exact ⟨b, q3, zvl_ok q4 q2⟩) h2⟩
      · cases h
    · cases h
noncomputable def zhl (h h' : zH) : Bool := match Nat.beq h.1 h'.1 with
  | true => zl2 (zl2 zcl) h.2.1 h'.2.1
  | false => false
theorem zhl_ok {cl : List vw_C} {tys : List (ClassId × FieldType)} {o : zO} {h h' : zH} {ws : va_W} (q : zhl h h' = true) (w : zwr cl tys o h ws) : zwr cl tys o h' ws := by
  unfold zhl at q
  split at q
  · rename_i hb
    have e := Nat.eq_of_beq_eq_true hb
    refine ⟨w.1.trans e, fun k hk => ?_⟩
    obtain ⟨c, a, e', h1, h2, h3⟩ := w.2 k (by rw [e]; exact hk)
    obtain ⟨c', h4, h5⟩ := zl2_g q h1
    exact ⟨c', a, e', h4, h2, zcl_ok h5 h3⟩
  · cases q
/-- all that has changed is in d' -/
def zsm (d d' : Nat) : Bool := Nat.beq (Nat.lor d d') d'
theorem zsm_ok {d d' : Nat} {ws ws' : va_W} (h : zsm d d' = true) (q : zcg d ws ws') : zcg d' ws ws' := by
  have e : Nat.lor d d' = d' := Nat.eq_of_beq_eq_true h
  intro k a x hx
  obtain ⟨e', h1, h2⟩ := q k a x hx
  refine ⟨e', h1, zfe_tr (m' := fun _ => false) (fun j hj => ⟨?_, rfl⟩) h2 (zfe_rf e')⟩
  rw [← e] at hj
  exact (zlor_mono hj).1
/-! two worlds in one: the slots of d from the second -/
noncomputable def zmz {α : Type} (f : Nat → α → α → α) (l2 : List α) : List α → Nat → List α := List.rec (motive := fun _ => List α → Nat → List α) (fun _ _ => []) (fun b _ ih l i => match l with
  | [] => b :: ih [] (i + 1)
  | a :: t => f i a b :: ih t (i + 1)) l2
theorem zmz_get {α : Type} {f : Nat → α → α → α} : ∀ {l2 l : List α} {i k : Nat} {b : α}, l2[k]? = some b → (zmz f l2 l i)[k]? = some (match l[k]? with
  | some a => f (i + k) a b
  | none => b)
  | [], l, i, k, b, h => by simp at h
  | x :: l2, l, i, k, b, h => by
    cases l with
    | nil =>
      show (x :: zmz f l2 [] (i + 1))[k]? = _
      cases k with
      | zero => cases h; rfl
      | succ k => have h : l2[k]? = some b := h; exact zmz_get (l := []) (i := i + 1) h
    | cons a t =>
      show (f i a x :: zmz f l2 t (i + 1))[k]? = _
      cases k with
      | zero => cases h; rfl
      | succ k =>
        have h : l2[k]? = some b := h
        have r := zmz_get (f := f) (l := t) (i := i + 1) h
        rw [show i + 1 + k = i + (k + 1) by omega] at r
        exact r
theorem zmz_len {α : Type} {f : Nat → α → α → α} : ∀ {l2 l : List α} {i : Nat}, (zmz f l2 l i).length = l2.length
  | [], l, i => rfl
  | x :: l2, [], i => by show (zmz f l2 [] (i + 1)).length + 1 = _; rw [zmz_len]; rfl
  | x :: l2, a :: t, i => by show (zmz f l2 t (i + 1)).length + 1 = _; rw [zmz_len]; rfl
noncomputable def zmc (d k : Nat) (a b : zC) : zC := match a with
  | .inr (_, fs) => (match b with
    | .inr (cj, fs2) => .inr (cj, zmz (fun j x y => match zbit d k j with
      | true => y
      | false => x) fs2 fs 0)
    | .inl _ => b)
  | .inl _ => (match zbit d k 0 with
    | true => b
    | false => a)
noncomputable def zmh (d n : Nat) (r r2 : zR zC) : zR zC := zmz (fun i x y => zmz (fun j a b => match Nat.ble (16 * i + j + 1) n with
  | true => zmc d (16 * i + j) a b
  | false => b) y x 0) r2 r 0
theorem zmh_get {d n k : Nat} {r r2 : zR zC} {a b : zC} (h1 : zrget r k = some a) (h2 : zrget r2 k = some b) : zrget (zmh d n r r2) k = some (match Nat.ble (k + 1) n with
  | true => zmc d k a b
  | false => b) := by
  unfold zrget at h1 h2
  split at h1
  · cases h1
  · rename_i c hc
    split at h2
    · cases h2
    · rename_i c2 hc2
      rw [zget_eq] at hc hc2 h1 h2
      unfold zrget zmh
      rw [zget_eq, zmz_get hc2, hc]
      dsimp only
      rw [zget_eq, zmz_get h2, h1]
      dsimp only
      rw [show 16 * (0 + k / 16) + (0 + k % 16) = k by omega]
theorem zr2_of {α β : Type} {R : α → β → Prop} : ∀ {s : List α} {t : List β}, s.length = t.length → (∀ (k : Nat) a b, s[k]? = some a → t[k]? = some b → R a b) → zr2 R s t
  | [], [], _, _ => trivial
  | a :: s, b :: t, h, q => ⟨q 0 a b rfl rfl, zr2_of (by simpa using h) (fun k x y h1 h2 => q (k + 1) x y h1 h2)⟩
  | [], _ :: _, h, _ => by simp at h
  | _ :: _, [], h, _ => by simp at h
theorem zae_inl {o : zO} {ad : Nat → Option Nat} {t n : Nat} {r : zR zAV} {cA : ClassId} {e : va_E} (h : zae o ad t n r cA e) : ∃ x, e = .inl x := by
  match t, h with
  | 0, ⟨f, h1, _⟩ => exact ⟨_, h1⟩
  | 1, ⟨f, h1, _⟩ => exact ⟨_, h1⟩
  | 2, ⟨f, h1, _⟩ => exact ⟨_, h1⟩
  | 3, ⟨f, h1, _⟩ => exact ⟨_, h1⟩
  | _ + 4, ⟨f, h1, _⟩ => exact ⟨_, h1⟩
theorem zmc_ok {cl : List vw_C} {tys : List (ClassId × FieldType)} {o : zO} {ad ad' : Nat → Option Nat} (hs : zsub ad ad') {d k : Nat} {a b : zC} {e e' : va_E} (h1 : zcr cl tys o ad a e) (h2 : zcr cl tys o ad' b e') (hf : zfe (zbit d k) e e') : zcr cl tys o ad' (zmc d k a b) e' := by
  unfold zmc
  split
  · rename_i ci fs
    obtain ⟨vs, rfl, h3⟩ := h1
    obtain ⟨vs', rfl, h4, h5⟩ := hf
    split
    · rename_i cj fs2
      obtain ⟨vs2, h6, h7⟩ := h2
      cases h6
      refine ⟨vs', rfl, zr2_of (by rw [zmz_len]; exact zr2_len h7) (fun j x v hx hv => ?_)⟩
      have hl : j < fs2.length := by have := (List.getElem?_eq_some_iff.mp hx).1; rw [zmz_len] at this; exact this
      have hb := List.getElem?_eq_getElem hl
      rw [zmz_get hb] at hx
      obtain ⟨v2, q1, q2⟩ := zr2_get j h7 hb
      rw [hv] at q1
      cases q1
      have hl2 : j < fs.length := by rw [zr2_len h3]; rw [← h4]; exact (List.getElem?_eq_some_iff.mp hv).1
      have ha := List.getElem?_eq_getElem hl2
      rw [ha, Nat.zero_add] at hx
      dsimp only at hx
      cases hx
      split
      · exact q2
      · rename_i hbit
        obtain ⟨v3, q3, q4⟩ := zr2_get j h3 ha
        rw [h5 j hbit, q3] at hv
        cases hv
        exact zgH_mono hs q4
    · exact h2
  · split
    · exact h2
    · rename_i hbit
      obtain ⟨cA, h3, h4⟩ := h1
      obtain ⟨x, rfl⟩ := zae_inl h4
      obtain ⟨x', rfl, h5⟩ := hf
      rw [h5 hbit]
      exact ⟨cA, h3, zae_mono hs h4⟩
noncomputable def zmH (h h2 : zH) : zH := (h2.1, zmh h2.2.2 h.1 h.2.1 h2.2.1, h2.2.2)
/-- behind a known call -/
theorem zmH_ok {cl : List vw_C} {tys : List (ClassId × FieldType)} {o : zO} {h h2 : zH} {ws ws' : va_W} (hrow : zl2 (zl2 (fun _ _ => true)) h2.2.1 h.2.1 = true) (w : zwr cl tys o h ws) (w2 : zwr cl tys o h2 ws') (g : zcg h2.2.2 ws ws') : zwr cl tys o (zmH h h2) ws' := by
  refine ⟨w2.1, fun k hk => ?_⟩
  obtain ⟨b, q, e', h1, h3, h4⟩ := w2.2 k hk
  obtain ⟨a0, h5, -⟩ := zl2_g hrow h1
  refine ⟨_, q, e', zmh_get h5 h1, h3, ?_⟩
  split
  · rename_i hb
    have hb := Nat.le_of_ble_eq_true hb
    obtain ⟨a, q2, e, h6, h7, h8⟩ := w.2 k (by omega)
    rw [h5] at h6
    cases h6
    obtain ⟨e2, h9, h10⟩ := g k q2 e h7
    rw [h3] at h9
    cases h9
    exact zmc_ok (zcg_sub g) h8 h4 h10
  · exact h4
/-- an answer and a world within what was said of them -/
noncomputable def zkin (r2 : Option zAV) (h2 : zH) : zRt := fun r h => (match r with
  | none => (match r2 with
    | none => true
    | some _ => false)
  | some a => (match r2 with
    | none => false
    | some b => zvl a b)) && (zhl h h2 && zsm h.2.2 h2.2.2)
theorem zkin_ok {o : zO} {ad : Nat → Option Nat} {r r2 : Option zAV} {h h2 : zH} {v : Option Value} (q : zkin r2 h2 r h = true) (g : zgo o ad r v) : zgo o ad r2 v ∧ zhl h h2 = true ∧ zsm h.2.2 h2.2.2 = true := by
  unfold zkin at q
  rw [Bool.and_eq_true, Bool.and_eq_true] at q
  refine ⟨?_, q.2⟩
  have q := q.1
  cases r with
  | none => cases r2 with
    | none => exact g
    | some b => cases q
  | some a => cases r2 with
    | none => cases q
    | some b => cases v with
      | none => exact g.elim
      | some w => exact zvl_ok q g
theorem zMet_frame {l : Launch} {D : va_G} {cl : List vw_C} {tys : List (ClassId × FieldType)} {o : zO} {z : Nat} {X : State → Heap → Prop} {Ts : List Cond} {mr : zM} {fr lo : Nat} {h hh h2 : zH} {as av : List zAV} {r2 : Option zAV} {k : zRt} (hM : zMet l D cl tys o z X Ts mr fr lo hh av (zkin r2 h2)) (ha : zl2 zvl as av = true) (hb : zhl h hh = true) (hrow : zl2 (zl2 (fun _ _ => true)) h2.2.1 h.2.1 = true) (hk : k r2 (zmH h h2) = true) : zMet l D cl tys o z X Ts mr fr lo h as k := by
  intro ws vs hvs
  have h0 := hM ws vs (zl2_r (R := zgH o (zad ws)) (R' := zgH o (zad ws)) (fun a b v q1 q2 => zvl_ok q1 q2) ha hvs)
  intro p e a1 a2 a3 s m args below b1 b2 b3 b4
  obtain ⟨c0, c1, c2⟩ := b3
  obtain ⟨n, oc, d1, d2, d3, ⟨⟨⟨r, v, h', ws', f1, f2, f3, f4, f5, f6, f7⟩, g1⟩, g2⟩⟩ := h0 p e a1 a2 a3 s m args below b1 b2 ⟨c0, zhl_ok hb c1, c2⟩ b4
  obtain ⟨k1, k2, k3⟩ := zkin_ok f7 f2
  have k4 := zsm_ok k3 f3
  exact ⟨n, oc, d1, d2, d3, ⟨⟨r2, v, zmH h h2, ws', f1, k1, k4, zmH_ok hrow c1 (zhl_ok k2 f4) k4, f5, f6, hk⟩, g1⟩, g2⟩
