/-! rows of exact tables -/
def xq_row (P : Nat → xq_I → Prop) : Nat → List (Option xq_I) → Prop
  | _, [] => True
  | pc, none :: t => xq_row P (pc + 1) t
  | pc, some s :: t => P pc s ∧ xq_row P (pc + 1) t
def xq_rows (P : Nat → xq_I → Prop) : Nat → xq_K → Prop
  | _, [] => True
  | pc, r :: t => xq_row P pc r ∧ xq_rows P (pc + 16) t
theorem xq_row_get {P : Nat → xq_I → Prop} : ∀ {r : List (Option xq_I)} {pc : Nat} (i : Nat) {s : xq_I}, xq_row P pc r → r[i]? = some (some s) → P (pc + i) s
  | [], _, i, s, _, h => by simp at h
  | none :: t, pc, 0, s, _, h => by simp at h
  | none :: t, pc, i + 1, s, h1, h => by
    have h1 : xq_row P (pc + 1) t := h1
    have := xq_row_get (r := t) i h1 h
    rw [show pc + 1 + i = pc + (i + 1) by omega] at this
    exact this
  | some x :: t, pc, 0, s, h1, h => by
    have e : x = s := by simpa using h
    subst e
    exact h1.1
  | some x :: t, pc, i + 1, s, h1, h => by
    have := xq_row_get (r := t) i h1.2 h
    rw [show pc + 1 + i = pc + (i + 1) by omega] at this
    exact this
theorem xq_rows_at {P : Nat → xq_I → Prop} : ∀ {c : xq_K} {pc : Nat} (j i : Nat) {r : List (Option xq_I)} {s : xq_I}, xq_rows P pc c → c[j]? = some r → r[i]? = some (some s) → P (pc + 16 * j + i) s
  | [], pc, j, i, r, s, _, h, _ => by simp at h
  | x :: t, pc, 0, i, r, s, h1, h, h2 => by
    have e : x = r := by simpa using h
    subst e
    exact xq_row_get i h1.1 h2
  | x :: t, pc, j + 1, i, r, s, h1, h, h2 => by
    have := xq_rows_at (c := t) j i h1.2 h h2
    rw [show pc + 16 + 16 * j + i = pc + 16 * (j + 1) + i by omega] at this
    exact this
theorem xq_rows_get {P : Nat → xq_I → Prop} {c : xq_K} (h : xq_rows P 0 c) {pc : Nat} {s : xq_I} (hs : zrget c pc = some (some s)) : P pc s := by
  unfold zrget at hs
  split at hs
  · cases hs
  · rename_i r hr
    rw [zget_eq] at hr hs
    have := xq_rows_at (pc / 16) (pc % 16) h hr hs
    rw [show 0 + 16 * (pc / 16) + pc % 16 = pc by omega] at this
    exact this
theorem xr_0 {P : Nat → xq_I → Prop} {pc : Nat} : xq_row P pc [] := trivial
theorem xr_n {P : Nat → xq_I → Prop} {pc : Nat} {t : List (Option xq_I)} (h : xq_row P (pc + 1) t) : xq_row P pc (none :: t) := h
theorem xr_s {P : Nat → xq_I → Prop} {pc : Nat} {s : xq_I} {t : List (Option xq_I)} (h : P pc s) (r : xq_row P (pc + 1) t) : xq_row P pc (some s :: t) := ⟨h, r⟩
theorem xrs_0 {P : Nat → xq_I → Prop} {pc : Nat} : xq_rows P pc [] := trivial
theorem xrs_c {P : Nat → xq_I → Prop} {pc : Nat} {r : List (Option xq_I)} {c : xq_K} (h : xq_row P pc r) (t : xq_rows P (pc + 16) c) : xq_rows P pc (r :: c) := ⟨h, t⟩
