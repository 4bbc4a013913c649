/-! A STATE WITHIN ANOTHER: bounds within bounds; names by a row of what equals what (from a name and so much, or from one number, to a name and so much) -/
abbrev zMp : Type := List ((Option Nat × Int) × (Nat × Int))
def zieq (a b : Int) : Bool := zle a b && zle b a
theorem zieq_ok {a b : Int} (h : zieq a b = true) : a = b := by
  unfold zieq at h
  rw [Bool.and_eq_true, zle_iff, zle_iff] at h
  omega
def zsv (f : Nat → Int32) (p : Option Nat × Int) : Int32 := match p.1 with
  | some n => f n + Int32.ofInt p.2
  | none => Int32.ofInt p.2
def zMok (M : zMp) (f' f : Nat → Int32) : Prop := ∀ m ∈ M, zsv f' m.1 = f m.2.1 + Int32.ofInt m.2.2
def zsrc (p : Option Nat × Int) (q : zN) : Bool := match p.1 with
  | some n => (match q.2 with
    | some t => Nat.beq n t.1 && zieq p.2 t.2
    | none => false)
  | none => zieq p.2 q.1.1 && zieq p.2 q.1.2
noncomputable def zany {α : Type} (p : α → Bool) (l : List α) : Bool := List.rec (motive := fun _ => Bool) false (fun a _ ih => Bool.casesOn (motive := fun _ => Bool) (p a) ih true) l
theorem zany_ok {α : Type} {p : α → Bool} : ∀ {l : List α}, zany p l = true → ∃ a ∈ l, p a = true
  | [], h => by cases h
  | a :: l, h => by
    by_cases hp : p a = true
    · exact ⟨a, List.mem_cons_self, hp⟩
    · have hp : p a = false := Bool.eq_false_iff.mpr hp
      have h : Bool.casesOn (motive := fun _ => Bool) (p a) (zany p l) true = true := h
      rw [hp] at h
      obtain ⟨b, h1, h2⟩ := zany_ok (l := l) h
      exact ⟨b, List.mem_cons_of_mem _ h1, h2⟩
noncomputable def zcvT (M : zMp) (q : zN) (t2 : zT) : Bool := match t2 with
  | none => true
  | some q2 => zany (fun m => Nat.beq m.2.1 q2.1 && (zieq m.2.2 q2.2 && zsrc m.1 q)) M
noncomputable def zcv (M : zMp) (a b : zAV) : Bool := match a with
  | .inl q => (match b with
    | .inl q2 => zle q2.1.1 q.1.1 && (zle q.1.2 q2.1.2 && zcvT M q q2.2)
    | _ => false)
  | .inr (.inl q) => (match b with
    | .inr (.inl q2) => zle q2.1 q.1 && zle q.2 q2.2
    | _ => false)
  | .inr (.inr (.inl k)) => (match b with
    | .inr (.inr (.inl k2)) => Nat.beq k k2
    | _ => false)
  | .inr (.inr (.inr (.inl true))) => (match b with
    | .inr (.inr (.inr (.inl true))) => true
    | _ => false)
  | .inr (.inr (.inr (.inl false))) => (match b with
    | .inr (.inr (.inr (.inl false))) => true
    | _ => false)
  | .inr (.inr (.inr (.inr k))) => (match b with
    | .inr (.inr (.inr (.inr k2))) => Nat.beq k k2
    | _ => false)
theorem zsrc_ok {f : Nat → Int32} {p : Option Nat × Int} {q : zN} {x : Int32} (h : zsrc p q = true) (hx : zmi q.1 x) (ht : ztg f q.2 x) : x = zsv f p := by
  obtain ⟨n, d⟩ := p
  obtain ⟨iv, t⟩ := q
  cases n with
  | some n =>
    cases t with
    | none => cases h
    | some t =>
      have h : (Nat.beq n t.1 && zieq d t.2) = true := h
      rw [Bool.and_eq_true] at h
      have e1 := Nat.eq_of_beq_eq_true h.1
      have e2 := zieq_ok h.2
      have ht : x = f t.1 + Int32.ofInt t.2 := ht
      show x = f n + Int32.ofInt d
      rw [ht, e1, e2]
  | none =>
    have h : (zieq d iv.1 && zieq d iv.2) = true := h
    rw [Bool.and_eq_true] at h
    have e1 := zieq_ok h.1
    have e2 := zieq_ok h.2
    obtain ⟨h1, h2⟩ := hx
    dsimp only at h1 h2
    show x = Int32.ofInt d
    have e3 : x.toInt = d := by omega
    rw [← e3, Int32.ofInt_toInt]
theorem zcvT_ok {M : zMp} {f' f : Nat → Int32} {q : zN} {t2 : zT} {x : Int32} (hM : zMok M f' f) (h : zcvT M q t2 = true) (hx : zmi q.1 x) (ht : ztg f' q.2 x) : ztg f t2 x := by
  cases t2 with
  | none => trivial
  | some q2 =>
    obtain ⟨m, hm, h1⟩ := zany_ok h
    simp only [Bool.and_eq_true] at h1
    show x = f q2.1 + Int32.ofInt q2.2
    rw [zsrc_ok h1.2.2 hx ht, hM m hm, Nat.eq_of_beq_eq_true h1.1, zieq_ok h1.2.1]
/-- the same place with other names -/
def zwith (o : zO) (f : Nat → Int32) : zO := (o.1, o.2.1, f)
theorem zcv_ok {M : zMp} {f' f : Nat → Int32} {o : zO} {ad : Nat → Option Nat} {a b : zAV} {v : Value} (hM : zMok M f' f) (h : zcv M a b = true) (hg : zg (zwith o f') ad a v) : zg (zwith o f) ad b v := by
  unfold zcv at h
  split at h
  · split at h
    · rename_i q q2
      simp only [Bool.and_eq_true, zle_iff] at h
      obtain ⟨x, rfl, ⟨hx1, hx2⟩, ht⟩ := hg
      exact ⟨x, rfl, ⟨by omega, by omega⟩, zcvT_ok hM h.2.2 ⟨hx1, hx2⟩ ht⟩
    · cases h
  · split at h
    · simp only [Bool.and_eq_true, zle_iff] at h
      obtain ⟨x, rfl, ⟨hx1, hx2⟩⟩ := hg
      exact ⟨x, rfl, ⟨by omega, by omega⟩⟩
    · cases h
  · split at h
    · have e := Nat.eq_of_beq_eq_true h
      subst e
      exact hg
    · cases h
  · split at h
    · exact hg
    · cases h
  · split at h
    · exact hg
    · cases h
  · split at h
    · have e := Nat.eq_of_beq_eq_true h
      subst e
      exact hg
    · cases h
noncomputable def zall2 {α β : Type} (R : α → β → Bool) (s : List α) : List β → Bool := List.rec (motive := fun _ => List β → Bool) (fun t => List.casesOn (motive := fun _ => Bool) t true (fun _ _ => false)) (fun a _ ih t => List.casesOn (motive := fun _ => Bool) t false (fun b t' => Bool.casesOn (motive := fun _ => Bool) (R a b) false (ih t'))) s
theorem zall2_c {α β : Type} {R : α → β → Bool} {a : α} {s : List α} {b : β} {t : List β} (h : zall2 R (a :: s) (b :: t) = true) : R a b = true ∧ zall2 R s t = true := by
  have h : Bool.casesOn (motive := fun _ => Bool) (R a b) false (zall2 R s t) = true := h
  cases hr : R a b with
  | false => rw [hr] at h; cases h
  | true => rw [hr] at h; exact ⟨rfl, h⟩
theorem zall2_get {α β : Type} {R : α → β → Bool} : ∀ {s : List α} {t : List β} {k : Nat} {a : α}, zall2 R s t = true → zget s k = some a → ∃ b, zget t k = some b ∧ R a b = true
  | [], _, k, a, _, h2 => by cases h2
  | x :: s, [], k, a, h, _ => by cases h
  | x :: s, y :: t, 0, a, h, h2 => by
    have e : some x = some a := h2
    cases e
    exact ⟨y, rfl, (zall2_c h).1⟩
  | x :: s, y :: t, k + 1, a, h, h2 => by
    obtain ⟨b, q1, q2⟩ := zall2_get (k := k) (zall2_c h).2 h2
    exact ⟨b, q1, q2⟩
theorem zall2_r2 {α β γ : Type} {R : α → β → Bool} {S : α → γ → Prop} {T : β → γ → Prop} (hR : ∀ a b v, R a b = true → S a v → T b v) : ∀ {s : List α} {t : List β} {vs : List γ}, zall2 R s t = true → zr2 S s vs → zr2 T t vs
  | [], [], [], _, _ => trivial
  | [], _ :: _, _, h, _ => by cases h
  | _ :: _, [], _, h, _ => by cases h
  | [], [], _ :: _, _, h2 => h2.elim
  | _ :: _, _ :: _, [], _, h2 => h2.elim
  | a :: s, b :: t, v :: vs, h, h2 => ⟨hR a b v (zall2_c h).1 h2.1, zall2_r2 hR (zall2_c h).2 h2.2⟩
theorem zall2_rr {α β : Type} {R : α → β → Bool} {r : zR α} {r2 : zR β} {i : Nat} {a : α} (h : zall2 (zall2 R) r r2 = true) (ha : zrget r i = some a) : ∃ b, zrget r2 i = some b ∧ R a b = true := by
  unfold zrget at ha ⊢
  cases hc : zget r (i / 16) with
  | none => rw [hc] at ha; cases ha
  | some c =>
    rw [hc] at ha
    obtain ⟨c2, h1, h2⟩ := zall2_get h hc
    rw [h1]
    exact zall2_get h2 ha
noncomputable def zcvC (M : zMp) (c c2 : zC) : Bool := match c with
  | .inl q => (match c2 with
    | .inl q2 => Nat.beq q.1 q2.1 && (Nat.beq q.2.1 q2.2.1 && zall2 (zall2 (zcv M)) q.2.2 q2.2.2)
    | _ => false)
  | .inr q => (match c2 with
    | .inr q2 => Nat.beq q.1 q2.1 && zall2 (zcv M) q.2 q2.2
    | _ => false)
noncomputable def zcvH (M : zMp) (h h2 : zH) : Bool := Nat.beq h.1 h2.1 && zall2 (zall2 (zcvC M)) h.2 h2.2
noncomputable def zcvLo (M : zMp) (l l2 : zL) : Bool := List.rec (motive := fun _ => Bool) true (fun q _ ih => match zlook l q.1 with
  | some a => Bool.casesOn (motive := fun _ => Bool) (zcv M a q.2) false ih
  | none => false) l2
noncomputable def zcvK (M : zMp) (c c2 : zK) : Bool := zcvLo M c.1 c2.1 && (zall2 (zcv M) c.2.1 c2.2.1 && (zcvH M c.2.2.1 c2.2.2.1 && (Nat.ble c.2.2.2.1 c2.2.2.2.1 && Nat.ble c.2.2.2.2 c2.2.2.2.2)))
noncomputable def zcvO (M : zMp) (r r2 : Option zAV) : Bool := match r with
  | none => (match r2 with
    | none => true
    | some _ => false)
  | some a => (match r2 with
    | none => false
    | some b => zcv M a b)
theorem zcvO_ok {M : zMp} {f' f : Nat → Int32} {o : zO} {ad : Nat → Option Nat} {r r2 : Option zAV} {v : Option Value} (hM : zMok M f' f) (h : zcvO M r r2 = true) (hg : zgo (zwith o f') ad r v) : zgo (zwith o f) ad r2 v := by
  cases r with
  | none =>
    cases r2 with
    | none =>
      cases v with
      | none => exact hg
      | some v => exact hg.elim
    | some _ => cases h
  | some a =>
    cases r2 with
    | none => cases h
    | some b =>
      cases v with
      | none => exact hg.elim
      | some v => exact zcv_ok hM h hg
theorem zae_cv {M : zMp} {f' f : Nat → Int32} {o : zO} {ad : Nat → Option Nat} {t n : Nat} {r r2 : zR zAV} {cA : ClassId} {e : va_E} (hM : zMok M f' f) (h : zall2 (zall2 (zcv M)) r r2 = true) (hg : zae (zwith o f') ad t n r cA e) : zae (zwith o f) ad t n r2 cA e := by
  have key : ∀ i a v, zrget r i = some a → zg (zwith o f') ad a v → ∃ b, zrget r2 i = some b ∧ zg (zwith o f) ad b v := by
    intro i a v h1 h2
    obtain ⟨b, q1, q2⟩ := zall2_rr h h1
    exact ⟨b, q1, zcv_ok hM q2 h2⟩
  match t, hg with
  | 0, ⟨g, h1, h2⟩ => exact ⟨g, h1, fun i hi => by obtain ⟨a, q1, q2⟩ := h2 i hi; exact key i a _ q1 q2⟩
  | 1, ⟨g, h1, h2⟩ => exact ⟨g, h1, fun i hi => by obtain ⟨a, q1, q2⟩ := h2 i hi; exact key i a _ q1 q2⟩
  | 2, ⟨g, h1, h2⟩ => exact ⟨g, h1, fun i hi => by obtain ⟨a, q1, q2⟩ := h2 i hi; exact key i a _ q1 q2⟩
  | 3, ⟨g, h1, h2⟩ => exact ⟨g, h1, fun i hi => by obtain ⟨a, q1, q2⟩ := h2 i hi; exact key i a _ q1 q2⟩
  | _ + 4, ⟨g, h1, h2⟩ => exact ⟨g, h1, fun i hi => by obtain ⟨a, q1, q2⟩ := h2 i hi; exact key i a _ q1 q2⟩
theorem zcr_cv {M : zMp} {f' f : Nat → Int32} {cl : List vw_C} {tys : List (ClassId × FieldType)} {o : zO} {ad : Nat → Option Nat} {c c2 : zC} {e : va_E} (hM : zMok M f' f) (h : zcvC M c c2 = true) (hg : zcr cl tys (zwith o f') ad c e) : zcr cl tys (zwith o f) ad c2 e := by
  unfold zcvC at h
  split at h
  · rename_i q
    split at h
    · rename_i q2
      obtain ⟨t, n, r⟩ := q
      obtain ⟨t2, n2, r2⟩ := q2
      simp only [Bool.and_eq_true] at h
      have e1 : t = t2 := Nat.eq_of_beq_eq_true h.1
      have e2 : n = n2 := Nat.eq_of_beq_eq_true h.2.1
      subst e1
      subst e2
      obtain ⟨cA, h1, h2⟩ := hg
      exact ⟨cA, h1, zae_cv hM h.2.2 h2⟩
    · cases h
  · rename_i q
    split at h
    · rename_i q2
      obtain ⟨t, r⟩ := q
      obtain ⟨t2, r2⟩ := q2
      simp only [Bool.and_eq_true] at h
      have e1 : t = t2 := Nat.eq_of_beq_eq_true h.1
      subst e1
      obtain ⟨vs, h1, h2⟩ := hg
      exact ⟨vs, h1, zall2_r2 (S := zg (zwith o f') ad) (T := zg (zwith o f) ad) (fun a b v q1 q2 => zcv_ok hM q1 q2) h.2 h2⟩
    · cases h
theorem zwr_cv {M : zMp} {f' f : Nat → Int32} {cl : List vw_C} {tys : List (ClassId × FieldType)} {o : zO} {h h2 : zH} {ws : va_W} (hM : zMok M f' f) (hc : zcvH M h h2 = true) (hw : zwr cl tys (zwith o f') h ws) : zwr cl tys (zwith o f) h2 ws := by
  unfold zcvH at hc
  rw [Bool.and_eq_true] at hc
  have e := Nat.eq_of_beq_eq_true hc.1
  refine ⟨by rw [← e]; exact hw.1, fun k hk => ?_⟩
  obtain ⟨c, a, e, h1, q2, h3⟩ := hw.2 k (by rw [e]; exact hk)
  obtain ⟨c2, q4, q5⟩ := zall2_rr hc.2 h1
  exact ⟨c2, a, e, q4, q2, zcr_cv hM q5 h3⟩
theorem zlo_cv {M : zMp} {f' f : Nat → Int32} {o : zO} {ad : Nat → Option Nat} {ls : Array Slot} {nL : Nat} {l : zL} {lv : List (Nat × Value)} (hM : zMok M f' f) (hl : lv_has ls nL lv) (hz : zr2 (zlr (zwith o f') ad) l lv) : ∀ {l2 : zL}, zcvLo M l l2 = true → ∃ lv2, lv_has ls nL lv2 ∧ zr2 (zlr (zwith o f) ad) l2 lv2
  | [], _ => ⟨[], ⟨hl.1, hl.2.1, fun q hq => absurd hq List.not_mem_nil⟩, trivial⟩
  | q :: l2, h => by
    have h : (match zlook l q.1 with
      | some a => Bool.casesOn (motive := fun _ => Bool) (zcv M a q.2) false (zcvLo M l l2)
      | none => false) = true := h
    split at h
    · rename_i a ha
      cases hc : zcv M a q.2 with
      | false => rw [hc] at h; cases h
      | true =>
        rw [hc] at h
        obtain ⟨k, v, h1, h2⟩ := zlook_ok hz ha
        obtain ⟨lv2, g1, g2⟩ := zlo_cv hM hl hz (l2 := l2) h
        refine ⟨(q.1, v) :: lv2, ⟨hl.1, hl.2.1, fun x hx => ?_⟩, ⟨rfl, zcv_ok hM hc h2⟩, g2⟩
        rcases List.mem_cons.mp hx with rfl | hx
        · exact hl.2.2 _ (List.mem_of_getElem? h1)
        · exact g1.2.2 x hx
    · cases h
theorem zGo_cv {p : Program} {l : Launch} {e : Env} {R : Room} {s : State} {m : MethodId} {args : Array Value} {below : List Frame} {meth : Method} {c0 : Code} {Q : State → Prop} {D : va_G} {cl : List vw_C} {tys : List (ClassId × FieldType)} {o : zO} {z : Nat} {ws0 : va_W} {nL : Nat} {pc : Nat} {c c2 : zK} {M : zMp} {f' f : Nat → Int32} (hM : zMok M f' f) (hc : zcvK M c c2 = true) (h : zGo p l e R s m args below meth c0 Q D cl tys (zwith o f) z ws0 nL pc c2) : zGo p l e R s m args below meth c0 Q D cl tys (zwith o f') z ws0 nL pc c := by
  intro ls vst H locs ws S
  unfold zcvK at hc
  simp only [Bool.and_eq_true] at hc
  obtain ⟨k1, k2, k3, k4, k5⟩ := hc
  obtain ⟨⟨lv, s1, s2⟩, s3, s4, s5, s6, s7, s8⟩ := S
  obtain ⟨lv2, g1, g2⟩ := zlo_cv hM s1 s2 k1
  exact W.widen (Nat.le_of_ble_eq_true k4) (Nat.le_of_ble_eq_true k5) (h ls vst H locs ws ⟨⟨lv2, g1, g2⟩, zall2_r2 (S := zg (zwith o f') (zad ws)) (T := zg (zwith o f) (zad ws)) (fun a b v q1 q2 => zcv_ok hM q1 q2) k2 s3, zwr_cv hM k3 s4, s5, s6, s7, s8⟩)
theorem zMok_nil {f' f : Nat → Int32} : zMok [] f' f := fun _ h => absurd h List.not_mem_nil
