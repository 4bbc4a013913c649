/-! decodes by tables -/
def zdrow (cc : ByteArray) : Nat → List (Option (Instr × Nat)) → Bool
  | _, [] => true
  | pc, none :: t => zdrow cc (pc + 1) t
  | pc, some q :: t => decide (decode cc pc = .ok q) && zdrow cc (pc + 1) t
def zdrows (cc : ByteArray) : Nat → List (List (Option (Instr × Nat))) → Bool
  | _, [] => true
  | pc, r :: t => zdrow cc pc r && zdrows cc (pc + 16) t
theorem zdrow_at {cc : ByteArray} : ∀ {r : List (Option (Instr × Nat))} {pc : Nat} (i : Nat) {q : Instr × Nat}, zdrow cc pc r = true → r[i]? = some (some q) → decode cc (pc + i) = .ok q
  | [], pc, i, q, _, h => by simp at h
  | none :: t, pc, 0, q, _, h => by simp at h
  | none :: t, pc, i + 1, q, h1, h => by
    have e : pc + (i + 1) = pc + 1 + i := by omega
    rw [e]
    exact zdrow_at (r := t) i h1 h
  | some x :: t, pc, 0, q, h1, h => by
    have h1 : (decide (decode cc pc = .ok x) && zdrow cc (pc + 1) t) = true := h1
    rw [Bool.and_eq_true] at h1
    have e : x = q := by simpa using h
    subst e
    exact of_decide_eq_true h1.1
  | some x :: t, pc, i + 1, q, h1, h => by
    have h1 : (decide (decode cc pc = .ok x) && zdrow cc (pc + 1) t) = true := h1
    rw [Bool.and_eq_true] at h1
    have e : pc + (i + 1) = pc + 1 + i := by omega
    rw [e]
    exact zdrow_at (r := t) i h1.2 h
theorem zdrows_at {cc : ByteArray} : ∀ {c : List (List (Option (Instr × Nat)))} {pc : Nat} (j i : Nat) {r : List (Option (Instr × Nat))} {q : Instr × Nat}, zdrows cc pc c = true → c[j]? = some r → r[i]? = some (some q) → decode cc (pc + 16 * j + i) = .ok q
  | [], pc, j, i, r, q, _, h, _ => by simp at h
  | x :: t, pc, 0, i, r, q, h1, h, h2 => by
    have h1 : (zdrow cc pc x && zdrows cc (pc + 16) t) = true := h1
    rw [Bool.and_eq_true] at h1
    have e : x = r := by simpa using h
    subst e
    exact zdrow_at i h1.1 h2
  | x :: t, pc, j + 1, i, r, q, h1, h, h2 => by
    have h1 : (zdrow cc pc x && zdrows cc (pc + 16) t) = true := h1
    rw [Bool.and_eq_true] at h1
    have e : pc + 16 * (j + 1) + i = pc + 16 + 16 * j + i := by omega
    rw [e]
    exact zdrows_at (c := t) j i h1.2 h h2
/-- a decode out of a method's table -/
theorem zda {cc : ByteArray} {c : List (List (Option (Instr × Nat)))} (h : zdrows cc 0 c = true) (pc : Nat) {r : List (Option (Instr × Nat))} {i : Instr} {n : Nat} (h1 : c[pc / 16]? = some r) (h2 : r[pc % 16]? = some (some (i, n))) : decode cc pc = .ok (i, n) := by
  have h3 := zdrows_at (pc / 16) (pc % 16) h h1 h2
  rw [show 0 + 16 * (pc / 16) + pc % 16 = pc by omega] at h3
  exact h3
/-- a decode out of a stretch of a table -/
theorem zdaP {cc : ByteArray} {c : List (List (Option (Instr × Nat)))} {p0 : Nat} (h : zdrows cc p0 c = true) (pc : Nat) {r : List (Option (Instr × Nat))} {i : Instr} {n : Nat} (h0 : p0 ≤ pc) (h1 : c[(pc - p0) / 16]? = some r) (h2 : r[(pc - p0) % 16]? = some (some (i, n))) : decode cc pc = .ok (i, n) := by
  have h3 := zdrows_at ((pc - p0) / 16) ((pc - p0) % 16) h h1 h2
  rw [show p0 + 16 * ((pc - p0) / 16) + (pc - p0) % 16 = pc by omega] at h3
  exact h3
