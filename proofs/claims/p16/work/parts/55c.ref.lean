section XRE
variable {d n0 p : Nat} {I : Nat → Nat → Int32} {J : Nat → Nat → Int64} {Rr : Nat → Nat → Nat}
/-- the reference's reader: reading THE TEXT of n0 signs, at p, with the fault w -/
def xe_at (I : Nat → Nat → Int32) (Rr : Nat → Nat → Nat) (n0 p : Nat) (w : Int32) : Prop := Rr 94 12 = 99 ∧ I 94 13 = Int32.ofNat n0 ∧ I 94 14 = 76 ∧ I 94 15 = Int32.ofNat p ∧ I 94 16 = w
/-- the sign that it sees -/
def xe_t (I : Nat → Nat → Int32) (n0 p : Nat) : Int32 := if p < n0 ∧ p < 76 then I 99 p &&& 255 else -1
theorem xe_fine {w : Int32} (h : I 94 16 = w) : xq_D xqP (d + 1) 209 [.ref 94] (I, J, Rr) = some (some (.int (if w = -1 then 1 else 0)), I, J, Rr) := by
  rw [qX8_fine_eq]
  show (if ¬ I 94 16 = -1 then _ else _) = _
  rw [h]
  by_cases hw : w = -1
  · rw [if_neg (fun q => q hw), if_pos hw]
  · rw [if_pos hw, if_neg hw]
theorem xe_here {w : Int32} (h : xe_at I Rr n0 p w) (hn : n0 ≤ 80) (hp : p ≤ 80) : xq_D xqP (d + 1) 231 [.ref 94] (I, J, Rr) = some (some (.int (xe_t I n0 p)), I, J, Rr) := by
  obtain ⟨h1, h2, h3, h4, h5⟩ := h
  rw [qX8_here_eq]
  have k1 : (I, J, Rr).2.2 94 12 = 99 := h1
  have k2 : (I, J, Rr).1 94 13 = Int32.ofNat n0 := h2
  have k3 : (I, J, Rr).1 94 14 = 76 := h3
  have k4 : (I, J, Rr).1 94 15 = Int32.ofNat p := h4
  have e3 : (Int32.ofNat p).toInt.toNat = p := by
    rw [xt_nat (by omega)]
    omega
  rw [k2, k3, k4, k1, e3]
  unfold xe_t
  by_cases q1 : n0 ≤ p
  · rw [if_pos ((xr_le (by omega) (by omega)).mpr q1), if_neg (by omega)]
  · rw [if_neg (fun q => q1 ((xr_le (by omega) (by omega)).mp q))]
    by_cases q2 : 76 ≤ p
    · rw [if_pos (show (76 : Int32) ≤ Int32.ofNat p from (xr_le (a := 76) (by omega) (by omega)).mpr q2), if_neg (by omega)]
    · rw [if_neg (show ¬ (76 : Int32) ≤ Int32.ofNat p from fun q => q2 ((xr_le (a := 76) (by omega) (by omega)).mp q)), if_neg (by decide), if_pos rfl, if_pos (by rw [xt_nat (by omega)]; omega), if_pos (by omega)]
theorem xe_fault {w x : Int32} (h : I 94 16 = w) : xq_D xqP (d + 2) 207 [.ref 94, .int x] (I, J, Rr) = some (none, if w = -1 then xq_upd I 94 16 x else I, J, Rr) := by
  rw [qX8_fault_eq, xe_fine h, xb_I1]
  by_cases hw : w = -1
  · rw [if_pos hw, if_pos hw, if_neg (by decide)]
  · rw [if_neg hw, if_neg hw, if_pos rfl]
/-- passes(), nothing being wrong yet -/
theorem xe_pass {x : Int32} (h : xe_at I Rr n0 p (-1)) (hn : n0 ≤ 80) (hp : p ≤ 80) : xq_D xqP (d + 2) 263 [.ref 94, .int x] (I, J, Rr) = some (some (.int (if xe_t I n0 p = x then 1 else 0)), if xe_t I n0 p = x then xq_upd I 94 15 (Int32.ofNat (p + 1)) else I, J, Rr) := by
  rw [qX8_passes_eq, xe_fine h.2.2.2.2, xb_I1, if_pos rfl, if_neg (by decide), xe_here h hn hp, xb_I1]
  have e : I 94 15 + 1 = Int32.ofNat (p + 1) := by
    rw [h.2.2.2.1]
    exact xr_add (a := p) (b := 1) (by omega)
  by_cases hx : xe_t I n0 p = x
  · rw [if_pos hx, if_pos hx, if_pos hx]
    show some (some (Value.int 1), xq_upd I 94 15 (I 94 15 + 1), J, Rr) = _
    rw [e]
  · rw [if_neg hx, if_neg hx, if_neg hx]
theorem xe_pass0 {w x : Int32} (h : I 94 16 = w) (hw : ¬ w = -1) : xq_D xqP (d + 2) 263 [.ref 94, .int x] (I, J, Rr) = some (some (.int 0), I, J, Rr) := by
  rw [qX8_passes_eq, xe_fine h, xb_I1, if_neg hw, if_pos rfl]
theorem xe_in {x lo hi : Int32} {S : xq_S} : xq_D xqP (d + 1) 235 [.int x, .int lo, .int hi] S = some (some (.int (if lo.toInt ≤ x.toInt ∧ x.toInt ≤ hi.toInt then 1 else 0)), S) := by
  rw [qX8_in_eq]
  by_cases h1 : x.toInt < lo.toInt
  · rw [if_pos (xt_lt.mpr h1), if_neg (by omega)]
  · rw [if_neg (fun q => h1 (xt_lt.mp q))]
    by_cases h2 : hi.toInt < x.toInt
    · rw [if_pos (xt_lt.mpr h2), if_neg (by omega)]
    · rw [if_neg (fun q => h2 (xt_lt.mp q)), if_pos (by omega)]
end XRE
theorem xe_by0 : (List.range 256).all (fun k => decide ((Int32.ofInt ((k : Int) - 128) &&& (255 : Int32)).toInt = if k < 128 then (k : Int) + 128 else (k : Int) - 128)) = true := by decide +kernel
theorem xe_byte {x : Int32} (h1 : -128 ≤ x.toInt) (h2 : x.toInt ≤ 127) : (x &&& (255 : Int32)).toInt = if x.toInt < 0 then x.toInt + 256 else x.toInt := by
  have h := List.all_eq_true.mp xe_by0 (x.toInt + 128).toNat (List.mem_range.mpr (by omega))
  have h := of_decide_eq_true h
  have e : (((x.toInt + 128).toNat : Nat) : Int) - 128 = x.toInt := by omega
  rw [e, Int32.ofInt_toInt] at h
  rw [h]
  split <;> split <;> omega
theorem xe_same {x : Int32} (h1 : -128 ≤ x.toInt) (h2 : x.toInt ≤ 127) (h3 : (x &&& (255 : Int32)).toInt ≤ 127) : x = x &&& (255 : Int32) := by
  rw [xt_eq]
  have h := xe_byte h1 h2
  rw [h] at h3 ⊢
  split at h3
  · omega
  · rename_i q
    rw [if_neg q]
theorem xr_sub1' {m : Nat} (h : m + 1 ≤ 1000) : Int32.ofNat (m + 1) - 1 = Int32.ofNat m := by
  have e1 : (1 : Int32).toInt = 1 := by decide
  rw [xt_eq, xt_sub (by rw [xt_nat (by omega), e1]; omega) (by rw [xt_nat (by omega), e1]; omega), xt_nat (by omega), xt_nat (by omega)]
  simp
section XRF
variable {d n0 p : Nat} {I : Nat → Nat → Int32} {J : Nat → Nat → Int64} {Rr : Nat → Nat → Nat}
theorem xe_one {c m : Int32} (h : xe_at I Rr n0 p (-1)) (hn : n0 ≤ 80) (hp : p < 80) (hb : ∀ i, i < 80 → -128 ≤ (I 99 i).toInt ∧ (I 99 i).toInt ≤ 127) (hc : 0 ≤ c.toInt) (hm : (c + m - 1).toInt ≤ 127) : xq_D xqP (d + 3) 260 [.ref 94, .int c, .int m] (I, J, Rr) = if c.toInt ≤ (xe_t I n0 p).toInt ∧ (xe_t I n0 p).toInt ≤ (c + m - 1).toInt then some (some (.int (xe_t I n0 p - c)), xq_upd I 94 15 (Int32.ofNat (p + 1)), J, Rr) else some (some (.int 0), xq_upd I 94 16 (Int32.ofNat p), J, Rr) := by
  have k1 : (I, J, Rr).2.2 94 12 = 99 := h.1
  have k4 : (I, J, Rr).1 94 15 = Int32.ofNat p := h.2.2.2.1
  rw [qX8_oneOf_eq, xe_fine h.2.2.2.2, xb_I1, if_pos rfl, if_pos (by decide), xe_here h hn (by omega), xb_I1, xe_in, xb_I1]
  by_cases hx : c.toInt ≤ (xe_t I n0 p).toInt ∧ (xe_t I n0 p).toInt ≤ (c + m - 1).toInt
  · rw [if_pos hx, if_pos hx, if_pos (by decide), k1, k4, if_neg (by decide), if_pos rfl]
    have e1 : Int32.ofNat p + 1 = Int32.ofNat (p + 1) := xr_add (a := p) (b := 1) (by omega)
    have e2 : Int32.ofNat (p + 1) - 1 = Int32.ofNat p := xr_sub1' (by omega)
    have e3 : (Int32.ofNat p).toInt.toNat = p := by
      rw [xt_nat (by omega)]
      omega
    rw [e1, e2, if_pos (by rw [xt_nat (by omega)]; omega), e3]
    have hq : p < n0 ∧ p < 76 := by
      refine Decidable.byContradiction fun q => ?_
      have : xe_t I n0 p = -1 := if_neg q
      rw [this] at hx
      have : ((-1 : Int32)).toInt = -1 := by decide
      omega
    have et : xe_t I n0 p = I 99 p &&& 255 := if_pos hq
    have es : I 99 p = xe_t I n0 p := by
      rw [et]
      exact xe_same (hb p hp).1 (hb p hp).2 (by rw [← et]; omega)
    show some (some (Value.int (I 99 p - c)), _) = _
    rw [es]
  · rw [if_neg hx, if_neg hx, if_neg (by decide), k4, xe_fault h.2.2.2.2, xb_V1, if_pos rfl]
end XRF
/-- the reference's ints while it reads: at p, fault w, what comes -/
def xe_I (I : Nat → Nat → Int32) (p : Nat) (w : Int32) (C : Nat → Int32) (k j : Nat) : Int32 := if k = 94 ∧ j = 15 then Int32.ofNat p else if k = 94 ∧ j = 16 then w else if k = 101 then C j else I k j
theorem xe_I15 {I : Nat → Nat → Int32} {p p' : Nat} {w : Int32} {C : Nat → Int32} : xq_upd (xe_I I p w C) 94 15 (Int32.ofNat p') = xe_I I p' w C := by
  funext k j
  unfold xq_upd xe_I
  by_cases h : k = 94 ∧ j = 15 <;> simp [h]
theorem xe_I16 {I : Nat → Nat → Int32} {p : Nat} {w w' : Int32} {C : Nat → Int32} : xq_upd (xe_I I p w C) 94 16 w' = xe_I I p w' C := by
  funext k j
  unfold xq_upd xe_I
  by_cases h : k = 94 ∧ j = 16
  · obtain ⟨rfl, rfl⟩ := h
    simp
  · simp [h]
theorem xe_I101 {I : Nat → Nat → Int32} {p i : Nat} {w v : Int32} {C : Nat → Int32} : xq_upd (xe_I I p w C) 101 i v = xe_I I p w (xr_up C i v) := by
  funext k j
  unfold xq_upd xe_I xr_up
  by_cases h : k = 101
  · subst h
    by_cases hj : j = i <;> simp [hj]
  · simp [h]
theorem xe_Iat {I : Nat → Nat → Int32} {Rr : Nat → Nat → Nat} {n0 p : Nat} {w : Int32} {C : Nat → Int32} (h1 : Rr 94 12 = 99) (h2 : I 94 13 = Int32.ofNat n0) (h3 : I 94 14 = 76) : xe_at (xe_I I p w C) Rr n0 p w := ⟨h1, h2, h3, rfl, rfl⟩
theorem xe_It {I : Nat → Nat → Int32} {n0 p q : Nat} {w : Int32} {C : Nat → Int32} : xe_t (xe_I I p w C) n0 q = xe_t I n0 q := rfl
/-- CAN so far and the last letter -/
def xe_la (last : Int) (K : Int32) : Prop := (last = -1 ∧ K = 0) ∨ ∃ h : Nat, h < 8 ∧ last = (h : Int) ∧ ((2 ^ h : Nat) : Int) ≤ K.toInt ∧ K.toInt < ((2 ^ (h + 1) : Nat) : Int)
theorem xe_la0 : (List.range 256).all (fun k => (List.range 8).all (fun h => decide ((k : Int) < ((1 : Int32) <<< (Int32.ofNat h &&& 31)).toInt → ((2 ^ h : Nat) : Int) ≤ (Int32.ofNat k ||| ((1 : Int32) <<< (Int32.ofNat h &&& 31))).toInt ∧ (Int32.ofNat k ||| ((1 : Int32) <<< (Int32.ofNat h &&& 31))).toInt < ((2 ^ (h + 1) : Nat) : Int)) && decide (((1 : Int32) <<< (Int32.ofNat h &&& 31)).toInt = ((2 ^ h : Nat) : Int)))) = true := by decide +kernel
theorem xe_bit {h : Nat} (hh : h < 8) : ((1 : Int32) <<< (Int32.ofNat h &&& 31)).toInt = ((2 ^ h : Nat) : Int) := by
  have h1 := List.all_eq_true.mp xe_la0 0 (List.mem_range.mpr (by omega))
  have h2 := List.all_eq_true.mp h1 h (List.mem_range.mpr hh)
  rw [Bool.and_eq_true] at h2
  exact of_decide_eq_true h2.2
theorem xe_pow {a b : Nat} (h : a ≤ b) : 2 ^ a ≤ 2 ^ b := Nat.pow_le_pow_right (by decide) h
/-- a letter is behind the last one just if its bit is above all so far -/
theorem xe_lt {last : Int} {K : Int32} {h : Nat} (hl : xe_la last K) (hh : h < 8) : last < (h : Int) ↔ K.toInt < ((1 : Int32) <<< (Int32.ofNat h &&& 31)).toInt := by
  rw [xe_bit hh]
  rcases hl with ⟨rfl, rfl⟩ | ⟨g, hg, rfl, h1, h2⟩
  · have : (0 : Int32).toInt = 0 := by decide
    have := Nat.two_pow_pos h
    constructor <;> intro _ <;> omega
  · constructor
    · intro q
      have := xe_pow (a := g + 1) (b := h) (by omega)
      omega
    · intro q
      refine Decidable.byContradiction fun z => ?_
      have := xe_pow (a := h) (b := g) (by omega)
      omega
theorem xe_la1 {last : Int} {K : Int32} {h : Nat} (hl : xe_la last K) (hh : h < 8) (hlt : last < (h : Int)) : xe_la h (K ||| ((1 : Int32) <<< (Int32.ofNat h &&& 31))) := by
  have h0 := (xe_lt hl hh).mp hlt
  have hK : 0 ≤ K.toInt ∧ K.toInt < 256 := by
    rcases hl with ⟨rfl, rfl⟩ | ⟨g, hg, rfl, h1, h2⟩
    · decide
    · have := xe_pow (a := g + 1) (b := 8) (by omega)
      omega
  have h1 := List.all_eq_true.mp xe_la0 K.toInt.toNat (List.mem_range.mpr (by omega))
  have h2 := List.all_eq_true.mp h1 h (List.mem_range.mpr hh)
  rw [Bool.and_eq_true] at h2
  have h3 := of_decide_eq_true h2.1
  have e : Int32.ofNat K.toInt.toNat = K := by
    rw [xt_eq, xt_nat (by omega)]
    omega
  rw [e] at h3
  exact Or.inr ⟨h, hh, rfl, h3 (by omega)⟩
/-- the letters of a LINE -/
def xe_run (t : Nat → Int32) : Nat → Nat → Int → Int32 → Nat × Int32 × Bool
  | 0, p, _, K => (p, K, false)
  | f + 1, p, last, K => if 97 ≤ (t p).toInt ∧ (t p).toInt ≤ 104 then (if last < (t p).toInt - 97 then xe_run t f (p + 1) ((t p).toInt - 97) (K ||| xr_bit (t p)) else (p, K, true)) else (p, K, false)
section XRG
variable {d n0 : Nat} {I : Nat → Nat → Int32} {J : Nat → Nat → Int64} {Rr : Nat → Nat → Nat}
theorem xr_up_id {C : Nat → Int32} {i : Nat} {v : Int32} (h : C i = v) : xr_up C i v = C := by
  funext j
  unfold xr_up
  by_cases hj : j = i
  · rw [if_pos hj, hj, h]
  · rw [if_neg hj]
theorem xr_up_up {C : Nat → Int32} {i : Nat} {v w : Int32} : xr_up (xr_up C i v) i w = xr_up C i w := by
  funext j
  unfold xr_up
  by_cases hj : j = i <;> simp [hj]
theorem xe_letters {k : Nat} (hk : k + 2 < 24) (h1 : Rr 94 12 = 99) (h2 : I 94 13 = Int32.ofNat n0) (h3 : I 94 14 = 76) (hn : n0 ≤ 80) : ∀ (f p : Nat) (v2 : Int32) (C : Nat → Int32), p + f = 80 → qX8_readMan_h44 (d + 2) (Int32.ofNat k) v2 (xe_I I p (-1) C, J, Rr) = some (none, xe_I I (xe_run (xe_t I n0) f p v2.toInt (C (k + 2))).1 (if (xe_run (xe_t I n0) f p v2.toInt (C (k + 2))).2.2 = true then Int32.ofNat (xe_run (xe_t I n0) f p v2.toInt (C (k + 2))).1 else -1) (xr_up C (k + 2) (xe_run (xe_t I n0) f p v2.toInt (C (k + 2))).2.1), J, Rr)
  | f, p, v2, C, hp => by
    have ha : xe_at (xe_I I p (-1) C) Rr n0 p (-1) := xe_Iat h1 h2 h3
    have e97 : (97 : Int32).toInt = 97 := by decide
    have e104 : (104 : Int32).toInt = 104 := by decide
    rw [qX8_readMan_h44_eq, xe_fine ha.2.2.2.2, xb_I1, if_pos rfl, if_neg (by decide), xe_here ha hn (by omega), xb_I1, xe_in, xb_I1, e97, e104, xe_It]
    by_cases hx : 97 ≤ (xe_t I n0 p).toInt ∧ (xe_t I n0 p).toInt ≤ 104
    · have hq : p < n0 ∧ p < 76 := by
        refine Decidable.byContradiction fun q => ?_
        have e : xe_t I n0 p = -1 := if_neg q
        rw [e] at hx
        have : ((-1 : Int32)).toInt = -1 := by decide
        omega
      obtain ⟨f, rfl⟩ : ∃ g, f = g + 1 := ⟨f - 1, by omega⟩
      have es : (xe_t I n0 p - 97).toInt = (xe_t I n0 p).toInt - 97 := by
        rw [xt_sub (by rw [e97]; omega) (by rw [e97]; omega), e97]
      have eix : Int32.ofNat k + (2 : Int32) = Int32.ofNat (k + 2) := xr_add (a := k) (b := 2) (by omega)
      have eip : (Int32.ofNat (k + 2)).toInt.toNat = k + 2 := by
        rw [xt_nat (by omega)]
        omega
      have eg : 0 ≤ (Int32.ofNat (k + 2)).toInt ∧ (Int32.ofNat (k + 2)).toInt < ((24 : Nat) : Int) := by
        rw [xt_nat (by omega)]
        omega
      rw [if_pos hx, if_neg (by decide), xe_here ha hn (by omega), xb_I1, xe_It]
      have er : xe_run (xe_t I n0) (f + 1) p v2.toInt (C (k + 2)) = if v2.toInt < (xe_t I n0 p).toInt - 97 then xe_run (xe_t I n0) f (p + 1) ((xe_t I n0 p).toInt - 97) (C (k + 2) ||| xr_bit (xe_t I n0 p)) else (p, C (k + 2), true) := by
        show (if 97 ≤ (xe_t I n0 p).toInt ∧ (xe_t I n0 p).toInt ≤ 104 then _ else _) = _
        rw [if_pos hx]
      rw [er]
      by_cases hl : v2.toInt < (xe_t I n0 p).toInt - 97
      · rw [if_pos (by rw [xt_lt, es]; exact hl), if_pos hl, eix, if_pos eg, if_pos eg, eip, qX8_readMan_h115_eq]
        have e15 : (xe_I I p (-1) C) 94 15 + 1 = Int32.ofNat (p + 1) := xr_add (a := p) (b := 1) (by omega)
        have e101 : xq_upd (xq_upd (xe_I I p (-1) C) 94 15 ((xe_I I p (-1) C) 94 15 + 1)) 101 (k + 2) ((xe_I I p (-1) C) 101 (k + 2) ||| xr_bit (xe_t I n0 p)) = xe_I I (p + 1) (-1) (xr_up C (k + 2) (C (k + 2) ||| xr_bit (xe_t I n0 p))) := by
          rw [e15, xe_I15, xe_I101]
          rfl
        show qX8_readMan_h44 (d + 2) (Int32.ofNat k) (xe_t I n0 p - 97) (xq_upd (xq_upd (xe_I I p (-1) C) 94 15 ((xe_I I p (-1) C) 94 15 + 1)) 101 (k + 2) ((xe_I I p (-1) C) 101 (k + 2) ||| xr_bit (xe_t I n0 p)), J, Rr) = _
        rw [e101, xe_letters hk h1 h2 h3 hn f (p + 1) _ _ (by omega), es, xr_up_up]
        have eC : xr_up C (k + 2) (C (k + 2) ||| xr_bit (xe_t I n0 p)) (k + 2) = C (k + 2) ||| xr_bit (xe_t I n0 p) := if_pos rfl
        rw [eC]
      · rw [if_neg (by rw [xt_lt, es]; exact hl), if_neg hl]
        have e15 : (xe_I I p (-1) C, J, Rr).1 94 15 = Int32.ofNat p := rfl
        rw [e15, xe_fault ha.2.2.2.2, xb_V1, if_pos rfl, xe_I16, qX8_readMan_h115_eq, qX8_readMan_h44_eq, xe_fine (w := Int32.ofNat p) rfl, xb_I1, if_neg (xr_ne1 (by omega)), if_pos rfl, if_pos rfl, xr_up_id rfl]
    · rw [if_neg hx, if_pos rfl]
      have er : xe_run (xe_t I n0) f p v2.toInt (C (k + 2)) = (p, C (k + 2), false) := by
        cases f with
        | zero => rfl
        | succ f =>
          show (if 97 ≤ (xe_t I n0 p).toInt ∧ (xe_t I n0 p).toInt ≤ 104 then _ else _) = _
          rw [if_neg hx]
      rw [er, if_neg (show ¬ false = true by decide), xr_up_id rfl]
end XRG
