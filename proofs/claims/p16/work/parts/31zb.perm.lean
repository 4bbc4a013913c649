/-! A WORLD IN ANOTHER ORDER -/
noncomputable def zpm (ps : List (Nat × Nat)) (k : Nat) : Nat := List.rec (motive := fun _ => Nat) k (fun a _ ih => match Nat.beq a.1 k with
  | true => a.2
  | false => ih) ps
noncomputable def zren (ps : List (Nat × Nat)) (a : zAV) : zAV := match a with
  | .inr (.inr (.inl k)) => .inr (.inr (.inl (zpm ps k)))
  | a => a
noncomputable def zmp {α β : Type} (f : α → β) (l : List α) : List β := List.rec (motive := fun _ => List β) [] (fun a _ ih => f a :: ih) l
theorem zmp_eq {α β : Type} (f : α → β) : ∀ l : List α, zmp f l = l.map f
  | [] => rfl
  | a :: l => by show f a :: zmp f l = _; rw [zmp_eq f l]; rfl
noncomputable def zrenC (ps : List (Nat × Nat)) (c : zC) : zC := match c with
  | .inr (ci, fs) => .inr (ci, zmp (zren ps) fs)
  | .inl (t, n, r) => (match Nat.ble 4 t with
    | true => .inl (t, n, zmp (zmp (zren ps)) r)
    | false => .inl (t, n, r))
/-- all below n -/
noncomputable def zfor (f : Nat → Bool) (n : Nat) : Bool := Nat.rec (motive := fun _ => Bool) true (fun k ih => match f k with
  | true => ih
  | false => false) n
theorem zfor_ok {f : Nat → Bool} : ∀ {n : Nat}, zfor f n = true → ∀ k, k < n → f k = true
  | 0, _, k, hk => absurd hk (by omega)
  | n + 1, h, k, hk => by
    have h : (match f n with
      | true => zfor f n
      | false => false) = true := h
    split at h
    · rename_i hf
      by_cases e : k = n
      · subst e; exact hf
      · exact zfor_ok h k (by omega)
    · cases h
noncomputable def zpmok (ps : List (Nat × Nat)) (n : Nat) : Bool := zfor (fun k => Nat.ble (zpm ps k + 1) n && Nat.beq (zpm ps (zpm ps k)) k) n
noncomputable def zpmh (ps : List (Nat × Nat)) (h hI : zH) : Bool := match Nat.beq h.1 hI.1 with
  | true => zfor (fun k => match zrget h.2.1 (zpm ps k) with
    | some c => (match zrget hI.2.1 k with
      | some c' => zcl (zrenC ps c) c'
      | none => false)
    | none => false) h.1
  | false => false
def zpmw (π : Nat → Nat) (ws : va_W) : va_W := match ws with
  | [] => []
  | w :: t => (List.range (w :: t).length).map (fun k => ((w :: t)[π k]?).getD w)
theorem zpmw_map {π : Nat → Nat} {ws : va_W} (hπ : ∀ k, k < ws.length → π k < ws.length) : ∃ f : Nat → Nat × va_E, zpmw π ws = (List.range ws.length).map f ∧ ∀ k, k < ws.length → ws[π k]? = some (f k) := by
  cases ws with
  | nil => exact ⟨fun _ => (0, .inr (0, [])), rfl, fun k hk => absurd hk (by simp)⟩
  | cons w t =>
    refine ⟨fun k => ((w :: t)[π k]?).getD w, rfl, ?_⟩
    intro k hk
    have h9 := List.getElem?_eq_getElem (hπ k hk)
    show (w :: t)[π k]? = some (((w :: t)[π k]?).getD w)
    rw [h9]
    rfl
theorem zpmw_get {π : Nat → Nat} {ws : va_W} (hπ : ∀ k, k < ws.length → π k < ws.length) (k : Nat) : (zpmw π ws)[k]? = if k < ws.length then ws[π k]? else none := by
  obtain ⟨f, e, hf⟩ := zpmw_map hπ
  by_cases hk : k < ws.length
  · rw [if_pos hk, hf k hk, e, List.getElem?_map, List.getElem?_range hk]; rfl
  · rw [if_neg hk]
    apply List.getElem?_eq_none
    rw [e, List.length_map, List.length_range]
    omega
theorem zpmw_len {π : Nat → Nat} {ws : va_W} (hπ : ∀ k, k < ws.length → π k < ws.length) : (zpmw π ws).length = ws.length := by
  obtain ⟨f, e, -⟩ := zpmw_map hπ
  rw [e]
  simp
section ZPERM
variable {cl : List vw_C} {tys : List (ClassId × FieldType)} {o : zO} {ps : List (Nat × Nat)} {ws : va_W}
theorem zpm_of {n : Nat} (h : zpmok ps n = true) (k : Nat) (hk : k < n) : zpm ps k < n ∧ zpm ps (zpm ps k) = k := by
  have := zfor_ok h k hk
  rw [Bool.and_eq_true] at this
  exact ⟨Nat.le_of_ble_eq_true this.1, Nat.eq_of_beq_eq_true this.2⟩
theorem zad_pm (h : zpmok ps ws.length = true) {k q : Nat} (hk : zad ws k = some q) : zad (zpmw (zpm ps) ws) (zpm ps k) = some q := by
  obtain ⟨e, he⟩ := zad_some hk
  have hl := (List.getElem?_eq_some_iff.mp he).1
  obtain ⟨p1, p2⟩ := zpm_of h k hl
  refine zad_of (e := e) ?_
  rw [zpmw_get (fun k hk => (zpm_of h k hk).1), if_pos p1, p2]
  exact he
theorem zgH_pm (h : zpmok ps ws.length = true) {a : zAV} {v : Value} (hg : zgH o (zad ws) a v) : zgH o (zad (zpmw (zpm ps) ws)) (zren ps a) v := by
  rcases a with q | q | k | t | k
  · exact hg
  · exact hg
  · obtain ⟨q, h1, h2⟩ := hg
    exact ⟨q, zad_pm h h1, h2⟩
  · exact hg
  · exact hg
theorem zr2_map {α β γ : Type} {R : α → β → Prop} {R' : γ → β → Prop} {f : α → γ} (hf : ∀ a b, R a b → R' (f a) b) : ∀ {l : List α} {l' : List β}, zr2 R l l' → zr2 R' (zmp f l) l'
  | [], [], _ => trivial
  | _ :: _, _ :: _, q => ⟨hf _ _ q.1, zr2_map hf q.2⟩
  | [], _ :: _, q => q.elim
  | _ :: _, [], q => q.elim
theorem zmp_get {α β : Type} {f : α → β} {l : List α} {i : Nat} {a : α} (h : zget l i = some a) : zget (zmp f l) i = some (f a) := by
  rw [zget_eq] at h ⊢
  rw [zmp_eq, List.getElem?_map, h]
  rfl
theorem zmp_none {α β : Type} {f : α → β} {l : List α} {i : Nat} (h : zget l i = none) : zget (zmp f l) i = none := by
  rw [zget_eq] at h ⊢
  rw [zmp_eq, List.getElem?_map, h]
  rfl
theorem zrget_mp {f : zAV → zAV} {r : zR zAV} {i : Nat} {a : zAV} (h : zrget r i = some a) : zrget (zmp (zmp f) r) i = some (f a) := by
  unfold zrget at h ⊢
  split at h
  · cases h
  · rename_i c hc
    rw [zmp_get hc]
    exact zmp_get h
theorem zaget_mp {f : zAV → zAV} {r : zR zAV} {i : Nat} {a : zAV} (h : zaget r i = some a) : zaget (zmp (zmp f) r) i = some (f a) := by
  match r, h with
  | [], h => exact zrget_mp (r := []) (i := i) h
  | [] :: [], h => exact zrget_mp (r := [[]]) (i := i) h
  | [] :: [] :: r, h => exact zrget_mp (r := [] :: [] :: r) (i := i) h
  | [] :: (x :: t) :: r, h =>
    have h : some x = some a := h
    cases h
    rfl
  | (x :: t) :: r, h => exact zrget_mp (r := (x :: t) :: r) (i := i) h
theorem zcr_pm (h : zpmok ps ws.length = true) {c : zC} {e : va_E} (hc : zcr cl tys o (zad ws) c e) : zcr cl tys o (zad (zpmw (zpm ps) ws)) (zrenC ps c) e := by
  rcases c with ⟨t, n, r⟩ | ⟨ci, fs⟩
  · obtain ⟨cA, h1, h2⟩ := hc
    unfold zrenC
    dsimp only
    split
    · rename_i ht
      refine ⟨cA, h1, ?_⟩
      match t, ht, h2 with
      | 0, ht, _ => cases ht
      | 1, ht, _ => cases ht
      | 2, ht, _ => cases ht
      | 3, ht, _ => cases ht
      | t + 4, _, ⟨f, g1, g2⟩ => exact ⟨f, g1, fun i hi => by obtain ⟨a, q1, q2⟩ := g2 i hi; exact ⟨_, zaget_mp q1, zgH_pm h q2⟩⟩
    · rename_i ht
      refine ⟨cA, h1, ?_⟩
      have key : ∀ a v, zgH o (zad ws) a v → (∃ x, v = .int x) ∨ (∃ x, v = .long x) → zgH o (zad (zpmw (zpm ps) ws)) a v := by
        intro a v hg hv
        rcases a with q | q | k | t | k
        · exact hg
        · exact hg
        · obtain ⟨q, _, rfl⟩ := hg
          rcases hv with ⟨x, hx⟩ | ⟨x, hx⟩ <;> cases hx
        · exact hg
        · exact hg
      match t, ht, h2 with
      | 0, _, ⟨f, g1, g2⟩ => exact ⟨f, g1, fun i hi => by obtain ⟨a, q1, q2⟩ := g2 i hi; exact ⟨a, q1, key _ _ q2 (Or.inl ⟨_, rfl⟩)⟩⟩
      | 1, _, ⟨f, g1, g2⟩ => exact ⟨f, g1, fun i hi => by obtain ⟨a, q1, q2⟩ := g2 i hi; exact ⟨a, q1, key _ _ q2 (Or.inr ⟨_, rfl⟩)⟩⟩
      | 2, _, ⟨f, g1, g2⟩ => exact ⟨f, g1, fun i hi => by obtain ⟨a, q1, q2⟩ := g2 i hi; exact ⟨a, q1, key _ _ q2 (Or.inl ⟨_, rfl⟩)⟩⟩
      | 3, _, ⟨f, g1, g2⟩ => exact ⟨f, g1, fun i hi => by obtain ⟨a, q1, q2⟩ := g2 i hi; exact ⟨a, q1, key _ _ q2 (Or.inl ⟨_, rfl⟩)⟩⟩
      | t + 4, ht, _ =>
        exfalso
        have : Nat.ble 4 (t + 4) = true := Nat.ble_eq.mpr (by omega)
        rw [this] at ht
        cases ht
  · obtain ⟨vs, rfl, h2⟩ := hc
    exact ⟨vs, rfl, zr2_map (fun a b q => zgH_pm h q) h2⟩
theorem zwr_pm {h hI : zH} (hp : zpmok ps h.1 = true) (hh : zpmh ps h hI = true) (w : zwr cl tys o h ws) : zwr cl tys o hI (zpmw (zpm ps) ws) := by
  unfold zpmh at hh
  split at hh
  · rename_i hb
    have e := Nat.eq_of_beq_eq_true hb
    have hp' : zpmok ps ws.length = true := by rw [w.1]; exact hp
    have hπ : ∀ k, k < ws.length → zpm ps k < ws.length := fun k hk => (zpm_of hp' k hk).1
    refine ⟨by rw [zpmw_len hπ, w.1, e], fun k hk => ?_⟩
    have hk' : k < h.1 := by rw [e]; exact hk
    have hc := zfor_ok hh k hk'
    have hkl : k < ws.length := by rw [w.1]; exact hk'
    obtain ⟨c, a, en, g1, g2, g3⟩ := w.2 (zpm ps k) (by rw [← w.1]; exact hπ k hkl)
    rw [g1] at hc
    dsimp only at hc
    split at hc
    · rename_i c' hc'
      exact ⟨c', a, en, hc', by rw [zpmw_get hπ, if_pos hkl]; exact g2, zcl_ok hc (zcr_pm hp' g3)⟩
    · cases hc
  · cases hh
end ZPERM
/-- a value that stays where it is -/
noncomputable def zfix (ps : List (Nat × Nat)) (a : zAV) : Bool := match a with
  | .inr (.inr (.inl k)) => Nat.beq (zpm ps k) k
  | _ => true
/-- if the slot j of cell k is the place q: the world in another order, as hI says -/
noncomputable def zo_perm (ps : List (Nat × Nat)) (k j q : Nat) (hI : zH) (sem : zSem) : zSem := fun call rt go c => match zslot c k j with
  | some (.inr (.inr (.inl q'))) => (match Nat.beq q' q with
    | true => (match zall (fun x : Nat × zAV => zfix ps x.2) c.1 && (zall (zfix ps) c.2.1 && (zpmok ps c.2.2.1.1 && zpmh ps c.2.2.1 hI)) with
      | true => sem call rt go (c.1, c.2.1, (hI.1, hI.2.1, 0), c.2.2.2)
      | false => false)
    | false => sem call rt go c)
  | _ => false
section ZPERO
variable {p : Program} {l : Launch} {e : Env} {R : Room} {s : State} {m : MethodId} {args : Array Value} {below : List Frame} {meth : Method} {c0 : Code} {Q : State → Prop} {D : va_G} {cl : List vw_C} {tys : List (ClassId × FieldType)} {o : zO} {z : Nat} {X : State → Heap → Prop} {Ts : List Cond} {prog : List zM} {nL : Nat} {cc : ByteArray} {ret : Option FieldType}
theorem zg_pm {ps : List (Nat × Nat)} {ws : va_W} (h : zpmok ps ws.length = true) {a : zAV} {v : Value} (hf : zfix ps a = true) (hg : zg o (zad ws) a v) : zg o (zad (zpmw (zpm ps) ws)) a v := by
  rcases a with q | q | k | t | k
  · exact hg
  · exact hg
  · obtain ⟨q, h1, h2⟩ := hg
    have e : zpm ps k = k := Nat.eq_of_beq_eq_true hf
    have := zad_pm h h1
    rw [e] at this
    exact ⟨q, this, h2⟩
  · exact hg
  · exact hg
theorem zr2_allL {ps : List (Nat × Nat)} {ws : va_W} (h : zpmok ps ws.length = true) : ∀ {al : zL} {l : List (Nat × Value)}, zall (fun x : Nat × zAV => zfix ps x.2) al = true → zr2 (zlr o (zad ws)) al l → zr2 (zlr o (zad (zpmw (zpm ps) ws))) al l
  | [], [], _, _ => trivial
  | x :: al, y :: l, ha, q => by
    have h0 := zall_ok ha (k := 0) (a := x) rfl
    have h1 : zall (fun x : Nat × zAV => zfix ps x.2) al = true := by
      have ha : (match zfix ps x.2 with
        | true => zall (fun x : Nat × zAV => zfix ps x.2) al
        | false => false) = true := ha
      rw [h0] at ha
      exact ha
    exact ⟨⟨q.1.1, zg_pm h h0 q.1.2⟩, zr2_allL h h1 q.2⟩
  | [], _ :: _, _, q => q.elim
  | _ :: _, [], _, q => q.elim
theorem zr2_allS {ps : List (Nat × Nat)} {ws : va_W} (h : zpmok ps ws.length = true) : ∀ {al : List zAV} {l : List Value}, zall (zfix ps) al = true → zr2 (zg o (zad ws)) al l → zr2 (zg o (zad (zpmw (zpm ps) ws))) al l
  | [], [], _, _ => trivial
  | x :: al, y :: l, ha, q => by
    have h0 := zall_ok ha (k := 0) (a := x) rfl
    have h1 : zall (zfix ps) al = true := by
      have ha : (match zfix ps x with
        | true => zall (zfix ps) al
        | false => false) = true := ha
      rw [h0] at ha
      exact ha
    exact ⟨zg_pm h h0 q.1, zr2_allS h h1 q.2⟩
  | [], _ :: _, _, q => q.elim
  | _ :: _, [], _, q => q.elim
theorem zk_perm {ps : List (Nat × Nat)} {k j q : Nat} {hI : zH} {pc : Nat} {sem : zSem} (h0 : zOp p l e R s m args below meth c0 Q D cl tys o z X Ts prog [] nL cc ret pc sem) : zOp p l e R s m args below meth c0 Q D cl tys o z X Ts prog [] nL cc ret pc (zo_perm ps k j q hI sem) := by
  intro call rt go c hcall hrt hgo hs fv hfv ls vst H locs ws S
  unfold zo_perm at hs
  split at hs
  · split at hs
    · split at hs
      · rename_i hck
        simp only [Bool.and_eq_true] at hck
        obtain ⟨k1, k2, k3, k4⟩ := hck
        obtain ⟨⟨lv, s1, s2⟩, s3, s4, s5, s6, s7, s8⟩ := S
        have hp' : zpmok ps ws.length = true := by rw [s4.1]; exact k3
        have hπ : ∀ k, k < ws.length → zpm ps k < ws.length := fun k hk => (zpm_of hp' k hk).1
        refine h0 call rt go _ hcall hrt hgo hs fv hfv ls vst H locs (zpmw (zpm ps) ws) ⟨⟨lv, s1, zr2_allL hp' k1 s2⟩, zr2_allS hp' k2 s3, zwr_pm k3 k4 s4, ?_, ⟨?_, ?_⟩, s7, ?_⟩
        · intro i x hx
          rw [zpmw_get hπ] at hx
          split at hx
          · exact s5 _ x hx
          · cases hx
        · intro i i' x x' hx hx' he
          rw [zpmw_get hπ] at hx hx'
          split at hx
          · rename_i hi
            split at hx'
            · rename_i hi'
              have := s6.1 _ _ x x' hx hx' he
              rw [← (zpm_of hp' i hi).2, ← (zpm_of hp' i' hi').2, this]
            · cases hx'
          · cases hx
        · intro i x hx
          rw [zpmw_get hπ] at hx
          split at hx
          · exact s6.2 _ x hx
          · cases hx
        · intro i a en he
          simp at he
      · cases hs
    · exact h0 call rt go c hcall hrt hgo hs fv hfv ls vst H locs ws S
  · cases hs
end ZPERO
