/-! EXACT FUNCTIONS: what a method makes of its arguments and of the world's values; cells by their places, null is place 0 -/
abbrev xq_S : Type := (Nat → Nat → Int32) × (Nat → Nat → Int64) × (Nat → Nat → Nat)
/-- a point: place, locals, stack, world -/
abbrev xq_C : Type := Nat × List Value × List Value × xq_S
abbrev xq_O : Type := Option Value × xq_S
abbrev xq_F : Type := Nat → List Value → xq_S → Option xq_O
abbrev xq_I : Type := xq_F → List Value → List Value → xq_S → Option (xq_C ⊕ xq_O)
abbrev xq_K : Type := zR (Option xq_I)
noncomputable def xq_st (call : xq_F) (code : xq_K) : xq_C → Option (xq_C ⊕ xq_O)
  | (pc, L, st, S) => match zrget code pc with
    | some (some sem) => sem call L st S
    | _ => none
noncomputable def xq_run (call : xq_F) (code : xq_K) : Nat → xq_C → Option xq_O
  | 0, _ => none
  | n + 1, c => match xq_st call code c with
    | none => none
    | some (.inl c') => xq_run call code n c'
    | some (.inr r) => some r
theorem xq_run_s {call : xq_F} {code : xq_K} : ∀ {n : Nat} {c : xq_C} {r : xq_O}, xq_run call code n c = some r → xq_run call code (n + 1) c = some r
  | 0, c, r, h => by cases h
  | n + 1, c, r, h => by
    have h : (match xq_st call code c with
      | none => none
      | some (.inl c') => xq_run call code n c'
      | some (.inr r) => some r) = some r := h
    show (match xq_st call code c with
      | none => none
      | some (.inl c') => xq_run call code (n + 1) c'
      | some (.inr r) => some r) = some r
    split at h
    · cases h
    · rename_i c' hc
      exact xq_run_s h
    · exact h
theorem xq_run_le {call : xq_F} {code : xq_K} {n m : Nat} (hnm : n ≤ m) {c : xq_C} {r : xq_O} (h : xq_run call code n c = some r) : xq_run call code m c = some r := by
  obtain ⟨k, rfl⟩ : ∃ k, m = n + k := ⟨m - n, by omega⟩
  clear hnm
  induction k with
  | zero => exact h
  | succ k ih => exact xq_run_s ih
theorem xq_run_det {call : xq_F} {code : xq_K} {n m : Nat} {c : xq_C} {r r' : xq_O} (h : xq_run call code n c = some r) (h' : xq_run call code m c = some r') : r = r' := by
  have h1 := xq_run_le (Nat.le_max_left n m) h
  have h2 := xq_run_le (Nat.le_max_right n m) h'
  rw [h1] at h2
  exact Option.some.inj h2
/-- what a point comes to, if it comes to an end -/
noncomputable def xq_E (call : xq_F) (code : xq_K) (c : xq_C) : Option xq_O := match Classical.propDecidable (∃ r n, xq_run call code n c = some r) with
  | .isTrue h => some (Classical.choose h)
  | .isFalse _ => none
theorem xq_E_iff {call : xq_F} {code : xq_K} {c : xq_C} {r : xq_O} : xq_E call code c = some r ↔ ∃ n, xq_run call code n c = some r := by
  unfold xq_E
  split
  · rename_i h _
    constructor
    · intro q
      cases q
      exact Classical.choose_spec h
    · rintro ⟨n, hn⟩
      obtain ⟨m, hm⟩ := Classical.choose_spec h
      rw [xq_run_det hm hn]
  · rename_i h _
    exact ⟨fun q => (by cases q), fun ⟨n, hn⟩ => absurd ⟨r, n, hn⟩ h⟩
theorem xq_E_s {call : xq_F} {code : xq_K} {c c' : xq_C} (h : xq_st call code c = some (.inl c')) : xq_E call code c = xq_E call code c' := by
  apply Option.ext
  intro r
  rw [xq_E_iff, xq_E_iff]
  constructor
  · rintro ⟨n, hn⟩
    cases n with
    | zero => cases hn
    | succ n =>
      have hn : (match xq_st call code c with
        | none => none
        | some (.inl c') => xq_run call code n c'
        | some (.inr r) => some r) = some r := hn
      rw [h] at hn
      exact ⟨n, hn⟩
  · rintro ⟨n, hn⟩
    refine ⟨n + 1, ?_⟩
    show (match xq_st call code c with
      | none => none
      | some (.inl c') => xq_run call code n c'
      | some (.inr r) => some r) = some r
    rw [h]
    exact hn
theorem xq_E_r {call : xq_F} {code : xq_K} {c : xq_C} {r : xq_O} (h : xq_st call code c = some (.inr r)) : xq_E call code c = some r := by
  rw [xq_E_iff]
  refine ⟨1, ?_⟩
  show (match xq_st call code c with
    | none => none
    | some (.inl c') => xq_run call code 0 c'
    | some (.inr r) => some r) = some r
  rw [h]
theorem xq_E_n {call : xq_F} {code : xq_K} {c : xq_C} (h : xq_st call code c = none) : xq_E call code c = none := by
  cases hr : xq_E call code c with
  | none => rfl
  | some r =>
    rw [xq_E_iff] at hr
    obtain ⟨n, hn⟩ := hr
    cases n with
    | zero => cases hn
    | succ n =>
      have hn : (match xq_st call code c with
        | none => none
        | some (.inl c') => xq_run call code n c'
        | some (.inr r) => some r) = some r := hn
      rw [h] at hn
      cases hn
/-- many steps -/
noncomputable def xq_it (call : xq_F) (code : xq_K) : Nat → xq_C → Option (xq_C ⊕ xq_O)
  | 0, c => some (.inl c)
  | n + 1, c => match xq_st call code c with
    | some (.inl c') => xq_it call code n c'
    | some (.inr r) => some (.inr r)
    | none => none
theorem xq_it_l {call : xq_F} {code : xq_K} : ∀ (n : Nat) {c c' : xq_C}, xq_it call code n c = some (.inl c') → xq_E call code c = xq_E call code c'
  | 0, c, c', h => by cases h; rfl
  | n + 1, c, c', h => by
    have h : (match xq_st call code c with
      | some (.inl c') => xq_it call code n c'
      | some (.inr r) => some (.inr r)
      | none => none) = some (.inl c') := h
    split at h
    · rename_i c1 hc
      rw [xq_E_s hc]
      exact xq_it_l n h
    · cases h
    · cases h
theorem xq_it_r {call : xq_F} {code : xq_K} : ∀ (n : Nat) {c : xq_C} {r : xq_O}, xq_it call code n c = some (.inr r) → xq_E call code c = some r
  | 0, c, r, h => by cases h
  | n + 1, c, r, h => by
    have h : (match xq_st call code c with
      | some (.inl c') => xq_it call code n c'
      | some (.inr r) => some (.inr r)
      | none => none) = some (.inr r) := h
    split at h
    · rename_i c1 hc
      rw [xq_E_s hc]
      exact xq_it_r n h
    · rename_i r' hr
      cases h
      exact xq_E_r hr
    · cases h
/-- a branch, a guard, calls -/
theorem xq_br {call : xq_F} {code : xq_K} {n : Nat} {c a b : xq_C} {P : Prop} [Decidable P] {A B : Option xq_O} (h : xq_it call code n c = some (.inl (if P then a else b))) (ha : P → xq_E call code a = A) (hb : ¬ P → xq_E call code b = B) : xq_E call code c = if P then A else B := by
  rw [xq_it_l n h]
  by_cases hP : P
  · rw [if_pos hP, if_pos hP]; exact ha hP
  · rw [if_neg hP, if_neg hP]; exact hb hP
theorem xq_gd {call : xq_F} {code : xq_K} {n : Nat} {c c1 a : xq_C} {P : Prop} [Decidable P] {A : Option xq_O} (h1 : xq_it call code n c = some (.inl c1)) (h : xq_st call code c1 = if P then some (.inl a) else none) (ha : P → xq_E call code a = A) : xq_E call code c = if P then A else none := by
  rw [xq_it_l n h1]
  by_cases hP : P
  · rw [if_pos hP] at h ⊢
    rw [xq_E_s h]
    exact ha hP
  · rw [if_neg hP] at h ⊢
    exact xq_E_n h
theorem xq_gn {call : xq_F} {code : xq_K} {n : Nat} {c c1 a : xq_C} {P : Prop} [Decidable P] {A : Option xq_O} (h1 : xq_it call code n c = some (.inl c1)) (h : xq_st call code c1 = if P then none else some (.inl a)) (ha : ¬ P → xq_E call code a = A) : xq_E call code c = if P then none else A := by
  rw [xq_it_l n h1]
  by_cases hP : P
  · rw [if_pos hP] at h ⊢
    exact xq_E_n h
  · rw [if_neg hP] at h ⊢
    rw [xq_E_s h]
    exact ha hP
def xq_bI {α : Type} (o : Option xq_O) (k : Int32 → xq_S → Option α) : Option α := match o with
  | some (some (.int x), S) => k x S
  | _ => none
def xq_bJ {α : Type} (o : Option xq_O) (k : Int64 → xq_S → Option α) : Option α := match o with
  | some (some (.long x), S) => k x S
  | _ => none
def xq_bV {α : Type} (o : Option xq_O) (k : xq_S → Option α) : Option α := match o with
  | some (none, S) => k S
  | _ => none
theorem xq_bI_s {α : Type} {x : Int32} {S : xq_S} {k : Int32 → xq_S → Option α} : xq_bI (some (some (.int x), S)) k = k x S := rfl
theorem xq_bJ_s {α : Type} {x : Int64} {S : xq_S} {k : Int64 → xq_S → Option α} : xq_bJ (some (some (.long x), S)) k = k x S := rfl
theorem xq_bV_s {α : Type} {S : xq_S} {k : xq_S → Option α} : xq_bV (some (none, S)) k = k S := rfl
theorem xq_cI {call : xq_F} {code : xq_K} {n : Nat} {c c1 : xq_C} {o : Option xq_O} {F : Int32 → xq_S → xq_C} {A : Int32 → xq_S → Option xq_O} (h1 : xq_it call code n c = some (.inl c1)) (h : xq_st call code c1 = xq_bI o (fun x S => some (.inl (F x S)))) (ha : ∀ x S, xq_E call code (F x S) = A x S) : xq_E call code c = xq_bI o A := by
  rw [xq_it_l n h1]
  rcases o with _ | ⟨v, S⟩
  · exact xq_E_n h
  · rcases v with _ | v
    · exact xq_E_n h
    · cases v with
      | int x => exact (xq_E_s h).trans (ha _ _)
      | _ => exact xq_E_n h
theorem xq_cJ {call : xq_F} {code : xq_K} {n : Nat} {c c1 : xq_C} {o : Option xq_O} {F : Int64 → xq_S → xq_C} {A : Int64 → xq_S → Option xq_O} (h1 : xq_it call code n c = some (.inl c1)) (h : xq_st call code c1 = xq_bJ o (fun x S => some (.inl (F x S)))) (ha : ∀ x S, xq_E call code (F x S) = A x S) : xq_E call code c = xq_bJ o A := by
  rw [xq_it_l n h1]
  rcases o with _ | ⟨v, S⟩
  · exact xq_E_n h
  · rcases v with _ | v
    · exact xq_E_n h
    · cases v with
      | long x => exact (xq_E_s h).trans (ha _ _)
      | _ => exact xq_E_n h
theorem xq_cV {call : xq_F} {code : xq_K} {n : Nat} {c c1 : xq_C} {o : Option xq_O} {F : xq_S → xq_C} {A : xq_S → Option xq_O} (h1 : xq_it call code n c = some (.inl c1)) (h : xq_st call code c1 = xq_bV o (fun S => some (.inl (F S)))) (ha : ∀ S, xq_E call code (F S) = A S) : xq_E call code c = xq_bV o A := by
  rw [xq_it_l n h1]
  rcases o with _ | ⟨v, S⟩
  · exact xq_E_n h
  · rcases v with _ | v
    · exact (xq_E_s h).trans (ha _)
    · exact xq_E_n h
theorem xq_it_ll {call : xq_F} {code : xq_K} (n : Nat) {c c' : xq_C} {A : Option xq_O} (h : xq_it call code n c = some (.inl c')) (hA : xq_E call code c' = A) : xq_E call code c = A := (xq_it_l n h).trans hA
/-- the world's shape: objects (class, kinds of slots: 0 int, 1 long, 2 a fixed place, 3 a place, 4 a boolean), arrays (0 ints, 1 longs, 2 booleans, 3 bytes, 4 fixed places; length) -/
abbrev xq_Sh : Type := (Nat × List Nat) ⊕ (Nat × Nat)
def xq_upd {α : Type} (f : Nat → Nat → α) (k j : Nat) (x : α) : Nat → Nat → α := fun k' j' => if k' = k ∧ j' = j then x else f k' j'
theorem xq_upd_s {α : Type} {f : Nat → Nat → α} {k j : Nat} {x : α} : xq_upd f k j x k j = x := if_pos ⟨rfl, rfl⟩
theorem xq_upd_n {α : Type} {f : Nat → Nat → α} {k j k' j' : Nat} {x : α} (h : ¬ (k' = k ∧ j' = j)) : xq_upd f k j x k' j' = f k' j' := if_neg h
