/-! THE RULE: the reference's reader over any of its arrays -/
/-- the reference's ints while it reads -/
def pI (I : Nat → Nat → Int32) (p : Nat) (w : Int32) : Nat → Nat → Int32 := xe_I I p w (I 101)
def yk_t (I : Nat → Nat → Int32) (q n0 m p : Nat) : Int32 := if p < n0 ∧ p < m then I q p &&& 255 else -1
def yk_H (I : Nat → Nat → Int32) (Rr : Nat → Nat → Nat) (q n0 m : Nat) : Prop := ((q = 99 ∧ n0 ≤ 80) ∨ ((q = 102 ∨ q = 103) ∧ n0 ≤ 40)) ∧ Rr 94 12 = q ∧ I 94 13 = Int32.ofNat n0 ∧ I 94 14 = Int32.ofNat m ∧ m ≤ 76 ∧ ∀ i, i < n0 → -128 ≤ (I q i).toInt ∧ (I q i).toInt ≤ 127
theorem pI15 {I : Nat → Nat → Int32} {p p' : Nat} {w : Int32} : xq_upd (pI I p w) 94 15 (Int32.ofNat p') = pI I p' w := xe_I15
theorem pI16 {I : Nat → Nat → Int32} {p : Nat} {w w' : Int32} : xq_upd (pI I p w) 94 16 w' = pI I p w' := xe_I16
theorem pI_o {I : Nat → Nat → Int32} {p k j : Nat} {w : Int32} (h1 : ¬ (k = 94 ∧ (j = 15 ∨ j = 16))) : pI I p w k j = I k j := by
  unfold pI xe_I
  grind
theorem yk_and {x : Int32} : 0 ≤ (x &&& (255 : Int32)).toInt ∧ (x &&& (255 : Int32)).toInt ≤ 255 := zand_r (x := x) (y := 255) (by decide)
theorem yk_tr {I : Nat → Nat → Int32} {q n0 m p : Nat} : -1 ≤ (yk_t I q n0 m p).toInt ∧ (yk_t I q n0 m p).toInt ≤ 255 := by
  unfold yk_t
  split
  · have := yk_and (x := I q p)
    omega
  · decide
theorem yk_ts {I : Nat → Nat → Int32} {q n0 m p : Nat} (h : 0 ≤ (yk_t I q n0 m p).toInt) : p < n0 ∧ p < m := by
  refine Decidable.byContradiction fun z => ?_
  have e : yk_t I q n0 m p = -1 := if_neg z
  rw [e] at h
  exact absurd h (by decide)
section PKA
variable {d q n0 m p : Nat} {I : Nat → Nat → Int32} {J : Nat → Nat → Int64} {Rr : Nat → Nat → Nat}
theorem yk_fine {w : Int32} : xq_D xqP (d + 1) 209 [.ref 94] (pI I p w, J, Rr) = some (some (.int (if w = -1 then 1 else 0)), pI I p w, J, Rr) := xe_fine rfl
theorem yk_fault {w x : Int32} : xq_D xqP (d + 2) 207 [.ref 94, .int x] (pI I p w, J, Rr) = some (none, if w = -1 then pI I p x else pI I p w, J, Rr) := by
  rw [xe_fault (w := w) rfl, pI16]
theorem yk_here {w : Int32} (h : yk_H I Rr q n0 m) (hp : p ≤ 80) : xq_D xqP (d + 1) 231 [.ref 94] (pI I p w, J, Rr) = some (some (.int (yk_t I q n0 m p)), pI I p w, J, Rr) := by
  obtain ⟨h0, h1, h2, h3, h4, h5⟩ := h
  rw [qX8_here_eq]
  have k1 : (pI I p w, J, Rr).2.2 94 12 = q := h1
  have k2 : (pI I p w, J, Rr).1 94 13 = Int32.ofNat n0 := h2
  have k3 : (pI I p w, J, Rr).1 94 14 = Int32.ofNat m := h3
  have k4 : (pI I p w, J, Rr).1 94 15 = Int32.ofNat p := rfl
  have e3 := xt_nat (n := p) (by omega)
  have e4 : (Int32.ofNat p).toInt.toNat = p := by omega
  have c1 := xr_le (a := n0) (b := p) (by omega) (by omega)
  have c2 := xr_le (a := m) (b := p) (by omega) (by omega)
  rw [k1, k2, k3, k4, e4, e3]
  simp only [c1, c2]
  unfold yk_t
  have g : ∀ k, ¬ (k = 94) → pI I p w k p = I k p := fun k hk => pI_o (fun z => hk z.1)
  rcases h0 with ⟨rfl, hq⟩ | ⟨rfl | rfl, hq⟩
  · rw [g 99 (by decide)]
    grind
  · rw [g 102 (by decide)]
    grind
  · rw [g 103 (by decide)]
    grind
theorem yk_pass {x : Int32} (h : yk_H I Rr q n0 m) (hp : p ≤ 80) : xq_D xqP (d + 2) 263 [.ref 94, .int x] (pI I p (-1), J, Rr) = if yk_t I q n0 m p = x then some (some (.int 1), pI I (p + 1) (-1), J, Rr) else some (some (.int 0), pI I p (-1), J, Rr) := by
  have e : (pI I p (-1), J, Rr).1 94 15 + 1 = Int32.ofNat (p + 1) := (Int32.ofNat_add p 1).symm
  rw [qX8_passes_eq, yk_fine, xb_I1, if_pos rfl, if_neg (by decide), yk_here h hp, xb_I1, e]
  by_cases hx : yk_t I q n0 m p = x
  · rw [if_pos hx, if_pos hx]
    show some (some (Value.int 1), xq_upd (pI I p (-1)) 94 15 (Int32.ofNat (p + 1)), J, Rr) = _
    rw [pI15]
  · rw [if_neg hx, if_neg hx]
theorem yk_pass0 {w x : Int32} (hw : ¬ w = -1) : xq_D xqP (d + 2) 263 [.ref 94, .int x] (pI I p w, J, Rr) = some (some (.int 0), pI I p w, J, Rr) := by
  rw [qX8_passes_eq, yk_fine, xb_I1, if_neg hw, if_pos rfl]
theorem yk_one0 {c x w : Int32} (hw : ¬ w = -1) : xq_D xqP (d + 3) 260 [.ref 94, .int c, .int x] (pI I p w, J, Rr) = some (some (.int 0), pI I p w, J, Rr) := xe_one0 rfl hw
theorem yk_one {c x : Int32} (h : yk_H I Rr q n0 m) (hp : p < 80) (hc : 0 ≤ c.toInt) (hm : (c + x - 1).toInt ≤ 127) : xq_D xqP (d + 3) 260 [.ref 94, .int c, .int x] (pI I p (-1), J, Rr) = if c.toInt ≤ (yk_t I q n0 m p).toInt ∧ (yk_t I q n0 m p).toInt ≤ (c + x - 1).toInt then some (some (.int (yk_t I q n0 m p - c)), pI I (p + 1) (-1), J, Rr) else some (some (.int 0), pI I p (Int32.ofNat p), J, Rr) := by
  have k1 : (pI I p (-1), J, Rr).2.2 94 12 = q := h.2.1
  have k4 : (pI I p (-1), J, Rr).1 94 15 = Int32.ofNat p := rfl
  rw [qX8_oneOf_eq, yk_fine, xb_I1, if_pos rfl, if_pos (by decide), yk_here h (by omega), xb_I1, xe_in, xb_I1]
  by_cases hx : c.toInt ≤ (yk_t I q n0 m p).toInt ∧ (yk_t I q n0 m p).toInt ≤ (c + x - 1).toInt
  · rw [if_pos hx, if_pos hx, if_pos (by decide), k1, k4]
    have e1 : Int32.ofNat p + 1 = Int32.ofNat (p + 1) := (Int32.ofNat_add p 1).symm
    have e2 : Int32.ofNat (p + 1) - 1 = Int32.ofNat p := xr_sub1' (by omega)
    have e3 := xt_nat (n := p) (by omega)
    have e4 : (Int32.ofNat p).toInt.toNat = p := by omega
    obtain ⟨hq, hqm⟩ := yk_ts (I := I) (q := q) (n0 := n0) (m := m) (p := p) (by omega)
    have et : yk_t I q n0 m p = I q p &&& 255 := if_pos ⟨hq, hqm⟩
    have hb := h.2.2.2.2.2 p hq
    have es : I q p = yk_t I q n0 m p := by
      rw [et]
      exact xe_same hb.1 hb.2 (by rw [← et]; omega)
    have g : ∀ k, ¬ (k = 94) → (pI I p (-1), J, Rr).1 k p = I k p := fun k hk => pI_o (fun z => hk z.1)
    rw [e1, e2, e4, e3]
    rcases h.1 with ⟨hq9, hq8⟩ | ⟨hq9 | hq9, hq8⟩
    · subst hq9
      rw [if_neg (by decide), if_pos rfl, if_pos (by omega), g 99 (by decide), es]
      show some (_, xq_upd (pI I p (-1)) 94 15 (Int32.ofNat (p + 1)), J, Rr) = _
      rw [pI15]
    · subst hq9
      rw [if_neg (by decide), if_neg (by decide), if_pos rfl, if_pos (by omega), g 102 (by decide), es]
      show some (_, xq_upd (pI I p (-1)) 94 15 (Int32.ofNat (p + 1)), J, Rr) = _
      rw [pI15]
    · subst hq9
      rw [if_neg (by decide), if_neg (by decide), if_neg (by decide), if_pos rfl, if_pos (by omega), g 103 (by decide), es]
      show some (_, xq_upd (pI I p (-1)) 94 15 (Int32.ofNat (p + 1)), J, Rr) = _
      rw [pI15]
  · rw [if_neg hx, if_neg hx, if_neg (by decide), k4, yk_fault, xb_V1, if_pos rfl]
theorem yk_let {x : Int32} {S : xq_S} : xq_D xqP (d + 1) 251 [.int x] S = some (some (.int (if x = 104 then 0 else if x = 116 then 1 else if x = 119 then 2 else if x = 109 then 3 else if x = 105 then 4 else if x = 110 then 5 else if x = 99 then 6 else -1)), S) := by
  rw [qX8_letterOf_eq]
  grind
theorem yk_need0 {w x : Int32} (hw : ¬ w = -1) : xq_D xqP (d + 3) 256 [.ref 94, .int x] (pI I p w, J, Rr) = some (none, pI I p w, J, Rr) := by
  rw [qX8_need_eq, yk_pass0 hw, xb_I1, if_neg (by decide), yk_fault, xb_V1, if_neg hw]
theorem yk_need {x : Int32} (h : yk_H I Rr q n0 m) (hp : p ≤ 80) : xq_D xqP (d + 3) 256 [.ref 94, .int x] (pI I p (-1), J, Rr) = some (none, if yk_t I q n0 m p = x then pI I (p + 1) (-1) else pI I p (Int32.ofNat p), J, Rr) := by
  rw [qX8_need_eq, yk_pass h hp]
  by_cases hx : yk_t I q n0 m p = x
  · rw [if_pos hx, if_pos hx, xb_I1, if_pos (by decide)]
  · have k4 : (pI I p (-1), J, Rr).1 94 15 = Int32.ofNat p := rfl
    rw [if_neg hx, if_neg hx, xb_I1, if_neg (by decide), k4, yk_fault, xb_V1, if_pos rfl]
end PKA
/-! the automaton, reckoning at once: due, depth, compared, digits, values, what waits -/
abbrev yk_Q : Type := Bool × Nat × (Nat → Bool) × Nat × List Int32 × List Int32
def yk_bin (o x y : Int32) : Int32 := if o = 42 then x * y else if o = 43 then x + y else if o = 45 then x - y else if o = 60 then (if x < y then 1 else 0) else if o = 61 then (if x = y then 1 else 0) else if o = 62 then (if y < x then 1 else 0) else if y = 0 then 0 else x / y
def yk_app (o : Int32) (V : List Int32) : List Int32 := if o = 256 then (match V with
  | x :: t => (-x) :: t
  | [] => []) else (match V with
  | y :: x :: t => yk_bin o x y :: t
  | V => V)
def yk_bd (o : Int32) : Nat := if o = 60 ∨ o = 61 ∨ o = 62 then 1 else if o = 43 ∨ o = 45 then 2 else if o = 42 ∨ o = 47 then 3 else if o = 256 then 4 else 0
def yk_fl (b : Nat) : List Int32 → List Int32 → List Int32 × List Int32
  | [], V => ([], V)
  | o :: W, V => if b ≤ yk_bd o then yk_fl b W (yk_app o V) else (o :: W, V)
def yk_up (f : Nat → Bool) (i : Nat) (v : Bool) (j : Nat) : Bool := if j = i then v else f j
def yk_ix (s : Int32) : Option Nat := if s = 104 then some 0 else if s = 116 then some 1 else if s = 119 then some 2 else if s = 109 then some 3 else if s = 105 then some 4 else if s = 110 then some 5 else if s = 99 then some 6 else none
def yk_1 (e : Nat → Int32) (s : Int32) : yk_Q → Option yk_Q
  | (true, dp, cm, dg, V, W) => if s = 45 then some (true, dp, cm, dg, V, 256 :: W) else if s = 40 then (if dp < 4 then some (true, dp + 1, yk_up cm (dp + 1) false, dg, V, 40 :: W) else none) else if 48 ≤ s.toInt ∧ s.toInt ≤ 57 then some (false, dp, cm, 1, (s - 48) :: V, W) else (match yk_ix s with
    | some i => some (false, dp, cm, 0, e i :: V, W)
    | none => none)
  | (false, dp, cm, dg, V, W) => if 48 ≤ s.toInt ∧ s.toInt ≤ 57 then (if 1 ≤ dg ∧ dg < 3 then (match V with
      | v :: t => some (false, dp, cm, dg + 1, (v * 10 + (s - 48)) :: t, W)
      | [] => none) else none) else if s = 41 then (if dp = 0 then none else some (false, dp - 1, cm, 0, (yk_fl 1 W V).2, (yk_fl 1 W V).1.tail)) else if yk_bd s = 0 ∨ yk_bd s = 1 ∧ cm dp = true then none else some (true, dp, yk_up cm dp (cm dp || yk_bd s == 1), 0, (yk_fl (yk_bd s) W V).2, s :: (yk_fl (yk_bd s) W V).1)
def yk_run (e : Nat → Int32) (T : Nat → Int32) (n0 stop : Nat) : Nat → Nat → yk_Q → Nat ⊕ yk_Q
  | 0, _, q => if 40 < n0 ∨ q.1 = true ∨ 0 < q.2.1 then .inl stop else .inr q
  | k + 1, p, q => match yk_1 e (T p) q with
    | none => .inl p
    | some q' => yk_run e T n0 stop k (p + 1) q'
def yk_o (e : Nat → Int32) (T : Nat → Int32) (n0 stop p : Nat) (q : yk_Q) : Nat ⊕ yk_Q := yk_run e T n0 stop (stop - p) p q
theorem yk_o_s {e T : Nat → Int32} {n0 stop p : Nat} {q q' : yk_Q} (hp : p < stop) (h : yk_1 e (T p) q = some q') : yk_o e T n0 stop p q = yk_o e T n0 stop (p + 1) q' := by
  unfold yk_o
  rw [show stop - p = (stop - (p + 1)) + 1 by omega, yk_run, h]
theorem yk_o_n {e T : Nat → Int32} {n0 stop p : Nat} {q : yk_Q} (hp : p < stop) (h : yk_1 e (T p) q = none) : yk_o e T n0 stop p q = .inl p := by
  unfold yk_o
  rw [show stop - p = (stop - (p + 1)) + 1 by omega, yk_run, h]
theorem yk_o_e {e T : Nat → Int32} {n0 stop p : Nat} {q : yk_Q} (hp : p = stop) (h : q.1 = true ∨ 0 < q.2.1) : yk_o e T n0 stop p q = .inl p := by
  unfold yk_o
  rw [show stop - p = 0 by omega, yk_run, if_pos (Or.inr h), hp]
theorem yk_fl_c {b : Nat} {o : Int32} {W V : List Int32} : yk_fl b (o :: W) V = if b ≤ yk_bd o then yk_fl b W (yk_app o V) else (o :: W, V) := rfl
theorem yk_fl_fl {b b' : Nat} (h : b' ≤ b) : ∀ (W V : List Int32), yk_fl b' (yk_fl b W V).1 (yk_fl b W V).2 = yk_fl b' W V
  | [], V => rfl
  | o :: W, V => by
    rw [yk_fl_c (b := b)]
    by_cases g : b ≤ yk_bd o
    · rw [if_pos g, yk_fl_c (b := b'), if_pos (show b' ≤ yk_bd o by omega)]
      exact yk_fl_fl h W (yk_app o V)
    · rw [if_neg g]
/-- nothing that waits binds so close -/
def yk_st (b : Nat) (W : List Int32) : Prop := match W with
  | [] => True
  | o :: _ => yk_bd o < b
theorem yk_st_fl {b : Nat} {W : List Int32} (h : yk_st b W) (V : List Int32) : yk_fl b W V = (W, V) := by
  cases W with
  | nil => rfl
  | cons o W =>
    have h : yk_bd o < b := h
    unfold yk_fl
    rw [if_neg (by omega)]
theorem yk_st_le {b b' : Nat} {W : List Int32} (h : yk_st b W) (hb : b ≤ b') : yk_st b' W := by
  cases W with
  | nil => exact trivial
  | cons o W =>
    have h : yk_bd o < b := h
    show yk_bd o < b'
    omega
