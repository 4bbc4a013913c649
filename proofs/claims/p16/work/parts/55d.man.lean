/-! readMan() of the reference -/
theorem xe_sub48 {x : Int32} : x - 49 + 1 = x - 48 := by grind
theorem xe_0p1 : (0 : Int32) + 1 = 1 := by decide
def xe_man (t : Nat → Int32) (k p : Nat) (C : Nat → Int32) : Nat × Int32 × (Nat → Int32) :=
  if 49 ≤ (t p).toInt ∧ (t p).toInt ≤ 52 then
    (if 49 ≤ (t (p + 1)).toInt ∧ (t (p + 1)).toInt ≤ 57 then
      ((xe_run t (78 - p) (p + 2) (-1) 0).1, if (xe_run t (78 - p) (p + 2) (-1) 0).2.2 = true then Int32.ofNat (xe_run t (78 - p) (p + 2) (-1) 0).1 else -1, xr_up (xr_up (xr_up C k (t p - 48)) (k + 1) (t (p + 1) - 48)) (k + 2) (xe_run t (78 - p) (p + 2) (-1) 0).2.1)
    else (p + 1, Int32.ofNat (p + 1), xr_up (xr_up (xr_up C k (t p - 48)) (k + 1) 1) (k + 2) 0))
  else (p, Int32.ofNat p, xr_up (xr_up (xr_up C k 1) (k + 1) 1) (k + 2) 0)
section XRH
variable {d n0 : Nat} {I : Nat → Nat → Int32} {J : Nat → Nat → Int64} {Rr : Nat → Nat → Nat}
theorem xe_one0 {c m w : Int32} (h : I 94 16 = w) (hw : ¬ w = -1) : xq_D xqP (d + 3) 260 [.ref 94, .int c, .int m] (I, J, Rr) = some (some (.int 0), I, J, Rr) := by
  rw [qX8_oneOf_eq, xe_fine h, xb_I1, if_neg hw, if_neg (by decide)]
theorem xe_h44 {k : Nat} {v : Int32} {w : Int32} (h : I 94 16 = w) (hw : ¬ w = -1) : qX8_readMan_h44 (d + 1) (Int32.ofNat k) v (I, J, Rr) = some (none, I, J, Rr) := by
  rw [qX8_readMan_h44_eq, xe_fine h, xb_I1, if_neg hw, if_pos rfl]
theorem xe_readMan {k p : Nat} (hk : k + 2 < 24) (h1 : Rr 94 12 = 99) (h2 : I 94 13 = Int32.ofNat n0) (h3 : I 94 14 = 76) (hn : n0 ≤ 80) (hp : p ≤ 76) (hb : ∀ i, i < 80 → -128 ≤ (I 99 i).toInt ∧ (I 99 i).toInt ≤ 127) {C : Nat → Int32} : xq_D xqP (d + 4) 267 [.ref 94, .int (Int32.ofNat k)] (xe_I I p (-1) C, J, Rr) = some (none, xe_I I (xe_man (xe_t I n0) k p C).1 (xe_man (xe_t I n0) k p C).2.1 (xe_man (xe_t I n0) k p C).2.2, J, Rr) := by
  have e0 : (49 : Int32).toInt = 49 := by decide
  have e1 : ((49 : Int32) + 4 - 1).toInt = 52 := by decide
  have e2 : ((49 : Int32) + 9 - 1).toInt = 57 := by decide
  have g0 := xt_nat (n := k) (by omega)
  have g1 := xt_nat (n := k + 1) (by omega)
  have g2 := xt_nat (n := k + 2) (by omega)
  have f1 : Int32.ofNat k + (1 : Int32) = Int32.ofNat (k + 1) := xr_add (a := k) (b := 1) (by omega)
  have f2 : Int32.ofNat k + (2 : Int32) = Int32.ofNat (k + 2) := xr_add (a := k) (b := 2) (by omega)
  have i0 : (Int32.ofNat k).toInt.toNat = k := by omega
  have i1 : (Int32.ofNat (k + 1)).toInt.toNat = k + 1 := by omega
  have i2 : (Int32.ofNat (k + 2)).toInt.toNat = k + 2 := by omega
  have P0 : 0 ≤ (Int32.ofNat k).toInt ∧ (Int32.ofNat k).toInt < ((24 : Nat) : Int) := by omega
  have P1 : 0 ≤ (Int32.ofNat (k + 1)).toInt ∧ (Int32.ofNat (k + 1)).toInt < ((24 : Nat) : Int) := by omega
  have P2 : 0 ≤ (Int32.ofNat (k + 2)).toInt ∧ (Int32.ofNat (k + 2)).toInt < ((24 : Nat) : Int) := by omega
  have np : ¬ Int32.ofNat p = -1 := xr_ne1 (by omega)
  have np1 : ¬ Int32.ofNat (p + 1) = -1 := xr_ne1 (by omega)
  have ha : ∀ (q : Nat) (w : Int32) (C : Nat → Int32), xe_at (xe_I I q w C) Rr n0 q w := fun q w C => xe_Iat h1 h2 h3
  rw [qX8_readMan_eq, xe_one (ha p (-1) C) hn (by omega) hb (by decide) (by decide), e0, e1, xe_It]
  by_cases q1 : 49 ≤ (xe_t I n0 p).toInt ∧ (xe_t I n0 p).toInt ≤ 52
  · rw [if_pos q1, xb_I1, if_pos P0, xe_I15, i0, xe_sub48, xe_I101, f1, f2]
    rw [xe_one (ha (p + 1) (-1) _) hn (by omega) hb (by decide) (by decide), e0, e2, xe_It]
    unfold xe_man
    rw [if_pos q1]
    by_cases q2 : 49 ≤ (xe_t I n0 (p + 1)).toInt ∧ (xe_t I n0 (p + 1)).toInt ≤ 57
    · rw [if_pos q2, if_pos q2, xb_I1, if_pos P1, if_pos P2, i1, i2, xe_I15, xe_sub48, xe_I101, xe_I101]
      have hl := xe_letters (d := d + 1) (J := J) hk h1 h2 h3 hn (78 - p) (p + 2) (-1) (xr_up (xr_up (xr_up C k (xe_t I n0 p - 48)) (k + 1) (xe_t I n0 (p + 1) - 48)) (k + 2) 0) (by omega)
      rw [show ((-1 : Int32)).toInt = -1 by decide, xr_up_up, show xr_up (xr_up (xr_up C k (xe_t I n0 p - 48)) (k + 1) (xe_t I n0 (p + 1) - 48)) (k + 2) 0 (k + 2) = 0 from if_pos rfl] at hl
      exact hl
    · rw [if_neg q2, if_neg q2, xb_I1, if_pos P1, if_pos P2, i1, i2, xe_I16, xe_0p1, xe_I101, xe_I101, xe_h44 (w := Int32.ofNat (p + 1)) rfl np1]
  · rw [if_neg q1, xb_I1, if_pos P0, xe_I16, i0, xe_0p1, xe_I101, f1, f2, xe_one0 (w := Int32.ofNat p) rfl np, xb_I1, if_pos P1, if_pos P2, i1, i2, xe_0p1, xe_I101, xe_I101, xe_h44 (w := Int32.ofNat p) rfl np]
    unfold xe_man
    rw [if_neg q1]
end XRH
