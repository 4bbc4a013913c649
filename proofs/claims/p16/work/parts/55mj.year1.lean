/-! A YEAR: its signs -/
def yaL (x : Int32) : Nat := if x.toInt = 103 then 3 else if x.toInt = 105 then 2 else if x.toInt = 110 then 2 else if x.toInt = 120 then 3 else 1
abbrev yaD (x : Int32) : Prop := 48 ≤ x.toInt ∧ x.toInt ≤ 57
abbrev yaE (l x : Int32) : Prop := yaD x ∨ (l.toInt = 103 ∧ x.toInt = 45)
/-- an ACT at p: its wrong place, or the place behind it -/
def yaf (T : Nat → Int32) (p : Nat) : Nat ⊕ Nat := if yaL (T p) = 1 then .inl p else if ¬ yaD (T (p + 1)) then .inl (p + 1) else if yaL (T p) = 2 then .inr (p + 2) else if ¬ yaE (T p) (T (p + 2)) then .inl (p + 2) else .inr (p + 3)
def yar (T : Nat → Int32) (stop : Nat) : Nat → Nat → Nat → Nat ⊕ Nat
  | 0, _, k => .inr k
  | m + 1, p, k => if stop ≤ p then .inr k else match yaf T p with
    | .inl q => .inl q
    | .inr q => yar T stop m q (k + 1)
def yaR : Nat ⊕ Nat → Int32
  | .inl q => Int32.ofNat q
  | .inr _ => -1
def yaT (I : Nat → Nat → Int32) (n0 p : Nat) : Int32 := if p < n0 ∧ p < 60 then I 2 p else -1
theorem yaL_r {x : Int32} : yaL x = 1 ∨ yaL x = 2 ∨ yaL x = 3 := by
  unfold yaL
  (repeat' split) <;> simp
theorem yaL_2 {x : Int32} (h : yaL x = 2) : ¬ x.toInt = 103 := by
  intro z
  unfold yaL at h
  rw [if_pos z] at h
  omega
theorem yi103 {x : Int32} : x = (103 : Int32) ↔ x.toInt = 103 := by
  rw [xt_eq]
  exact Iff.rfl
theorem yi45 {x : Int32} : x = (45 : Int32) ↔ x.toInt = 45 := by
  rw [xt_eq]
  exact Iff.rfl
section YYA
variable {d n0 stop : Nat} {I : Nat → Nat → Int32} {J : Nat → Nat → Int64} {R : Nat → Nat → Nat} {l x : Int32} {S : xq_S}
theorem yc_signs : xq_D xqP (d + 1) 102 [.int x] S = some (some (.int (Int32.ofNat (yaL x))), S) := by
  rw [qX7_actSigns_eq]
  unfold yaL
  by_cases h1 : x.toInt = 103
  · rw [if_pos h1, if_pos h1]
    rfl
  · rw [if_neg h1, if_neg h1]
    by_cases h2 : x.toInt = 105
    · rw [if_pos h2, if_pos h2]
      rfl
    · rw [if_neg h2, if_neg h2]
      by_cases h3 : x.toInt = 110
      · rw [if_pos h3, if_pos h3]
        rfl
      · rw [if_neg h3, if_neg h3]
        by_cases h4 : x.toInt = 120
        · rw [if_pos h4, if_pos h4]
          rfl
        · rw [if_neg h4, if_neg h4]
          rfl
theorem yc_digit : xq_D xqP (d + 1) 136 [.int x] S = some (some (.int (if yaD x then 1 else 0)), S) := by
  have e1 : ((48 : Int32)).toInt = 48 := by decide
  have e2 : ((57 : Int32)).toInt = 57 := by decide
  rw [qX7_isDigit_eq]
  by_cases h1 : x.toInt < 48
  · rw [if_pos (xt_lt.mpr (by omega)), if_neg (fun z => by have := z.1; omega)]
  · rw [if_neg (fun q => by have := xt_lt.mp q; omega)]
    by_cases h2 : 57 < x.toInt
    · rw [if_pos (xt_lt.mpr (by omega)), if_neg (fun z => by have := z.2; omega)]
    · rw [if_neg (fun q => by have := xt_lt.mp q; omega), if_pos (show yaD x from ⟨by omega, by omega⟩)]
theorem yc_at {p : Nat} (h1 : I 1 1 = Int32.ofNat n0) (hn : n0 ≤ 80) (hp : p ≤ 200) : xq_D xqP (d + 1) 93 [.ref 1, .int (Int32.ofNat p)] (I, J, R) = some (some (.int (if p < n0 then I 2 p else -1)), I, J, R) := by
  have b1 := xt_nat (n := p) (by omega)
  have b2 : (Int32.ofNat p).toInt.toNat = p := by omega
  have h1' : (I, J, R).1 1 1 = Int32.ofNat n0 := h1
  rw [qX6_at_eq, if_neg (fun z => by have := xt_lt.mp z; have e0 : ((0 : Int32)).toInt = 0 := (by decide); omega), h1']
  by_cases h : p < n0
  · rw [if_neg (fun z => by have := (xr_le (by omega) (by omega)).mp z; omega), b2, b1, if_pos (by omega), if_pos h]
  · rw [if_pos ((xr_le (by omega) (by omega)).mpr (by omega)), if_neg h]
theorem yc_b1 {p : Nat} (h1 : I 1 1 = Int32.ofNat n0) (hn : n0 ≤ 80) (hs : stop = if 60 < n0 then 60 else n0) (hp : p ≤ stop) : qX7_yearFault_h20 (d + 1) (Int32.ofNat stop) l 1 (Int32.ofNat p) (I, J, R) = if yaE l (yaT I n0 p) then qX7_yearFault_h20 (d + 1) (Int32.ofNat stop) l 0 (Int32.ofNat (p + 1)) (I, J, R) else some (some (.int (Int32.ofNat p)), I, J, R) := by
  have hs60 : stop ≤ 60 ∧ stop ≤ n0 ∧ (stop < 60 → stop = n0) := by
    rw [hs]
    split <;> omega
  have h1' : (I, J, R).1 1 1 = Int32.ofNat n0 := h1
  have em : ((-1 : Int32)).toInt = -1 := by decide
  have a1 : Int32.ofNat p + (1 : Int32) = Int32.ofNat (p + 1) := (Int32.ofNat_add p 1).symm
  rw [qX7_yearFault_h20_eq]
  by_cases hq : p = stop
  · subst hq
    have ht : yaT I n0 p = -1 := if_neg (by omega)
    rw [if_pos (Int32.le_refl _), h1', ht, if_neg (show ¬ yaE l (-1) from fun z => z.elim (fun z => by have := z.1; omega) (fun z => by have := z.2; omega))]
    by_cases h6 : (60 : Int32) < Int32.ofNat n0
    · rw [if_pos h6]
    · rw [if_neg h6, if_neg (by decide)]
  · have ht : yaT I n0 p = I 2 p := if_pos (by omega)
    rw [if_neg (fun z => by have := (xr_le (by omega) (by omega)).mp z; omega), yc_at h1 hn (by omega), if_pos (show p < n0 by omega), xb_I1, if_pos (by decide), ht]
    have h81 : qX7_yearFault_h81 (d + 1) (Int32.ofNat stop) l 1 (Int32.ofNat p) (I 2 p) (I, J, R) = if yaD (I 2 p) then qX7_yearFault_h20 (d + 1) (Int32.ofNat stop) l 0 (Int32.ofNat (p + 1)) (I, J, R) else some (some (.int (Int32.ofNat p)), I, J, R) := by
      rw [qX7_yearFault_h81_eq, yc_digit, xb_I1]
      by_cases hd : yaD (I 2 p)
      · rw [if_pos hd, if_pos hd, if_pos (by decide), qX7_yearFault_h100_eq, a1]
        rfl
      · rw [if_neg hd, if_neg hd, if_neg (by decide)]
    by_cases hl : l = (103 : Int32)
    · rw [if_neg (fun z => z hl), if_neg (by decide)]
      by_cases h45 : I 2 p = (45 : Int32)
      · rw [if_neg (fun z => z h45), yc_digit, xb_I1, if_pos (show yaE l (I 2 p) from Or.inr ⟨yi103.mp hl, yi45.mp h45⟩)]
        have key : qX7_yearFault_h100 (d + 1) (Int32.ofNat stop) l 1 (Int32.ofNat p) (I 2 p) 1 (I, J, R) = qX7_yearFault_h20 (d + 1) (Int32.ofNat stop) l 0 (Int32.ofNat (p + 1)) (I, J, R) := by
          rw [qX7_yearFault_h100_eq, a1]
          rfl
        rw [key, ite_self]
      · rw [if_pos h45, h81]
        by_cases hd : yaD (I 2 p)
        · rw [if_pos hd, if_pos (show yaE l (I 2 p) from Or.inl hd)]
        · rw [if_neg hd, if_neg (show ¬ yaE l (I 2 p) from fun z => z.elim hd (fun z => h45 (yi45.mpr z.2)))]
    · rw [if_pos hl, h81]
      by_cases hd : yaD (I 2 p)
      · rw [if_pos hd, if_pos (show yaE l (I 2 p) from Or.inl hd)]
      · rw [if_neg hd, if_neg (show ¬ yaE l (I 2 p) from fun z => z.elim hd (fun z => hl (yi103.mpr z.1)))]
theorem yc_b2 {p : Nat} (h1 : I 1 1 = Int32.ofNat n0) (hn : n0 ≤ 80) (hs : stop = if 60 < n0 then 60 else n0) (hp : p ≤ stop) : qX7_yearFault_h20 (d + 1) (Int32.ofNat stop) l 2 (Int32.ofNat p) (I, J, R) = if yaD (yaT I n0 p) then qX7_yearFault_h20 (d + 1) (Int32.ofNat stop) l 1 (Int32.ofNat (p + 1)) (I, J, R) else some (some (.int (Int32.ofNat p)), I, J, R) := by
  have hs60 : stop ≤ 60 ∧ stop ≤ n0 ∧ (stop < 60 → stop = n0) := by
    rw [hs]
    split <;> omega
  have h1' : (I, J, R).1 1 1 = Int32.ofNat n0 := h1
  have em : ((-1 : Int32)).toInt = -1 := by decide
  have a1 : Int32.ofNat p + (1 : Int32) = Int32.ofNat (p + 1) := (Int32.ofNat_add p 1).symm
  rw [qX7_yearFault_h20_eq]
  by_cases hq : p = stop
  · subst hq
    have ht : yaT I n0 p = -1 := if_neg (by omega)
    rw [if_pos (Int32.le_refl _), h1', ht, if_neg (show ¬ yaD (-1) from fun z => by have := z.1; omega)]
    by_cases h6 : (60 : Int32) < Int32.ofNat n0
    · rw [if_pos h6]
    · rw [if_neg h6, if_neg (by decide)]
  · have ht : yaT I n0 p = I 2 p := if_pos (by omega)
    rw [if_neg (fun z => by have := (xr_le (by omega) (by omega)).mp z; omega), yc_at h1 hn (by omega), if_pos (show p < n0 by omega), xb_I1, if_pos (by decide), ht]
    have h81 : qX7_yearFault_h81 (d + 1) (Int32.ofNat stop) l 2 (Int32.ofNat p) (I 2 p) (I, J, R) = if yaD (I 2 p) then qX7_yearFault_h20 (d + 1) (Int32.ofNat stop) l 1 (Int32.ofNat (p + 1)) (I, J, R) else some (some (.int (Int32.ofNat p)), I, J, R) := by
      rw [qX7_yearFault_h81_eq, yc_digit, xb_I1]
      by_cases hd : yaD (I 2 p)
      · rw [if_pos hd, if_pos hd, if_pos (by decide), qX7_yearFault_h100_eq, a1]
        rfl
      · rw [if_neg hd, if_neg hd, if_neg (by decide)]
    by_cases hl : l = (103 : Int32)
    · rw [if_neg (fun z => z hl), if_pos (by decide), h81]
    · rw [if_pos hl, h81]
/-- yearFault() -/
theorem yc_fl (h1 : I 1 1 = Int32.ofNat n0) (hn : n0 ≤ 80) (hs : stop = if 60 < n0 then 60 else n0) : ∀ (m p k : Nat) (l : Int32), n0 ≤ p + m → p ≤ stop → qX7_yearFault_h20 (d + 1) (Int32.ofNat stop) l 0 (Int32.ofNat p) (I, J, R) = some (some (.int (yaR (yar (yaT I n0) n0 m p k))), I, J, R) := by
  have hs60 : stop ≤ 60 ∧ stop ≤ n0 ∧ (stop < 60 → stop = n0) := by
    rw [hs]
    split <;> omega
  have h1' : (I, J, R).1 1 1 = Int32.ofNat n0 := h1
  have done : ∀ (p : Nat) (l : Int32), n0 ≤ p → p ≤ stop → qX7_yearFault_h20 (d + 1) (Int32.ofNat stop) l 0 (Int32.ofNat p) (I, J, R) = some (some (.int (-1)), I, J, R) := by
    intro p l q1 q2
    have e : p = stop := by omega
    subst e
    rw [qX7_yearFault_h20_eq, if_pos (Int32.le_refl _), h1', if_neg (fun z => by have := xt_lt.mp z; rw [xt_nat (by omega)] at this; have e6 : ((60 : Int32)).toInt = 60 := (by decide); omega), if_pos (by decide)]
  intro m
  induction m with
  | zero =>
    intro p k l q1 q2
    exact done p l (by omega) q2
  | succ m ih =>
    intro p k l q1 q2
    rw [yar]
    by_cases hz : n0 ≤ p
    · rw [if_pos hz]
      exact done p l hz q2
    · rw [if_neg hz]
      by_cases hp : p = stop
      · subst hp
        have hL : yaf (yaT I n0) p = .inl p := by
          unfold yaf
          rw [show yaT I n0 p = -1 from if_neg (by omega), if_pos (by decide)]
        rw [hL, qX7_yearFault_h20_eq, if_pos (Int32.le_refl _), h1', if_pos (xt_lt.mpr (by rw [xt_nat (by omega)]; have e6 : ((60 : Int32)).toInt = 60 := (by decide); omega))]
        rfl
      · have ht : yaT I n0 p = I 2 p := if_pos (by omega)
        have a1 : Int32.ofNat p + (1 : Int32) = Int32.ofNat (p + 1) := (Int32.ofNat_add p 1).symm
        rw [qX7_yearFault_h20_eq, if_neg (fun z => by have := (xr_le (by omega) (by omega)).mp z; omega), yc_at h1 hn (by omega), if_pos (show p < n0 by omega), xb_I1, if_neg (by decide), yc_signs, xb_I1, ← ht, a1]
        generalize hl2 : yaT I n0 p = l2
        have ta : ∀ q, q ≤ stop → ¬ yaT I n0 q = -1 → q + 1 ≤ stop := by
          intro q w1 w2
          refine Decidable.byContradiction fun w3 => w2 (if_neg ?_)
          omega
        have tb : ∀ l q, yaE l (yaT I n0 q) → ¬ yaT I n0 q = -1 := by
          intro l q w1 w2
          rw [w2] at w1
          have em : ((-1 : Int32)).toInt = -1 := by decide
          exact w1.elim (fun z => by have := z.1; omega) (fun z => by have := z.2; omega)
        rcases yaL_r (x := l2) with hL | hL | hL
        · have hf : yaf (yaT I n0) p = .inl p := by
            unfold yaf
            rw [hl2, if_pos hL]
          rw [hL, hf, if_neg (by decide)]
          rfl
        · rw [hL, if_pos (by decide), show Int32.ofNat 2 - 1 = (1 : Int32) from rfl, yc_b1 h1 hn hs (by omega)]
          have hE : yaE l2 (yaT I n0 (p + 1)) ↔ yaD (yaT I n0 (p + 1)) := ⟨fun z => z.elim id (fun z => absurd z.1 (yaL_2 hL)), Or.inl⟩
          by_cases hd : yaD (yaT I n0 (p + 1))
          · have hf : yaf (yaT I n0) p = .inr (p + 2) := by
              unfold yaf
              rw [hl2, if_neg (by omega), if_neg (fun z => z hd), if_pos hL]
            rw [if_pos (hE.mpr hd), hf]
            exact ih (p + 2) (k + 1) l2 (by omega) (ta (p + 1) (by omega) (tb l2 _ (Or.inl hd)))
          · have hf : yaf (yaT I n0) p = .inl (p + 1) := by
              unfold yaf
              rw [hl2, if_neg (by omega), if_pos hd]
            rw [if_neg (fun z => hd (hE.mp z)), hf]
            rfl
        · rw [hL, if_pos (by decide), show Int32.ofNat 3 - 1 = (2 : Int32) from rfl, yc_b2 h1 hn hs (by omega)]
          by_cases hd : yaD (yaT I n0 (p + 1))
          · have hp2 := ta (p + 1) (by omega) (tb l2 _ (Or.inl hd))
            rw [if_pos hd, yc_b1 h1 hn hs (by omega)]
            by_cases he : yaE l2 (yaT I n0 (p + 2))
            · have hf : yaf (yaT I n0) p = .inr (p + 3) := by
                unfold yaf
                rw [hl2, if_neg (by omega), if_neg (fun z => z hd), if_neg (by omega), if_neg (fun z => z he)]
              rw [if_pos he, hf]
              exact ih (p + 3) (k + 1) l2 (by omega) (ta (p + 2) hp2 (tb l2 _ he))
            · have hf : yaf (yaT I n0) p = .inl (p + 2) := by
                unfold yaf
                rw [hl2, if_neg (by omega), if_neg (fun z => z hd), if_neg (by omega), if_pos he]
              rw [if_neg he, hf]
              rfl
          · have hf : yaf (yaT I n0) p = .inl (p + 1) := by
              unfold yaf
              rw [hl2, if_neg (by omega), if_pos hd]
            rw [if_neg hd, hf]
            rfl
theorem yc_fault (h1 : I 1 1 = Int32.ofNat n0) (hn : n0 ≤ 80) : xq_D xqP (d + 2) 182 [.ref 0] (I, J, R) = some (some (.int (yaR (yar (yaT I n0) n0 80 0 0))), I, J, R) := by
  have h1' : (I, J, R).1 1 1 = Int32.ofNat n0 := h1
  have e6 : ((60 : Int32)).toInt = 60 := by decide
  rw [qX7_yearFault_eq, h1']
  have es : (if (60 : Int32) < Int32.ofNat n0 then (60 : Int32) else Int32.ofNat n0) = Int32.ofNat (if 60 < n0 then 60 else n0) := by
    by_cases h : 60 < n0
    · rw [if_pos h, if_pos (xt_lt.mpr (by rw [xt_nat (by omega)]; omega))]
      rfl
    · rw [if_neg h, if_neg (fun z => by have := xt_lt.mp z; rw [xt_nat (by omega)] at this; omega)]
  rw [es]
  exact yc_fl h1 hn rfl 80 0 0 0 (by omega) (by omega)
end YYA
