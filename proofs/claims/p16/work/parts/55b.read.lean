/-! pure helps for equations -/
theorem xt_add {x y : Int32} (h1 : -2147483648 ≤ x.toInt + y.toInt) (h2 : x.toInt + y.toInt ≤ 2147483647) : (x + y).toInt = x.toInt + y.toInt := by
  rw [Int32.toInt_add]
  exact Int.bmod_eq_of_le (by omega) (by omega)
theorem xt_sub {x y : Int32} (h1 : -2147483648 ≤ x.toInt - y.toInt) (h2 : x.toInt - y.toInt ≤ 2147483647) : (x - y).toInt = x.toInt - y.toInt := by
  rw [Int32.toInt_sub]
  exact Int.bmod_eq_of_le (by omega) (by omega)
theorem xt_mul {x y : Int32} (h1 : -2147483648 ≤ x.toInt * y.toInt) (h2 : x.toInt * y.toInt ≤ 2147483647) : (x * y).toInt = x.toInt * y.toInt := by
  rw [Int32.toInt_mul]
  exact Int.bmod_eq_of_le (by omega) (by omega)
theorem xt_nat {n : Nat} (h : n < 2147483648) : (Int32.ofNat n).toInt = n := by
  rw [Int32.toInt_ofNat', show Int32.size = 4294967296 from rfl]
  exact Int.bmod_eq_of_le (by omega) (by omega)
theorem xt_lt {x y : Int32} : x < y ↔ x.toInt < y.toInt := Int32.lt_iff_toInt_lt
theorem xt_le {x y : Int32} : x ≤ y ↔ x.toInt ≤ y.toInt := Int32.le_iff_toInt_le
theorem xt_eq {x y : Int32} : x = y ↔ x.toInt = y.toInt := Int32.toInt_inj.symm
theorem xt_in {x : Int32} : -2147483648 ≤ x.toInt ∧ x.toInt ≤ 2147483647 := by
  have h1 := Int32.le_toInt x
  have h2 := Int32.toInt_lt x
  omega
theorem xb_I1 {f : Int32 → xq_S → Option xq_O} {x : Int32} {S : xq_S} : xq_bI (some (some (.int x), S)) f = f x S := rfl
theorem xb_J1 {f : Int64 → xq_S → Option xq_O} {x : Int64} {S : xq_S} : xq_bJ (some (some (.long x), S)) f = f x S := rfl
theorem xb_V1 {f : xq_S → Option xq_O} {S : xq_S} : xq_bV (some (none, S)) f = f S := rfl
theorem xu_t {α : Type} {F : Nat → Nat → α} {k j : Nat} {x : α} : xq_upd F k j x k j = x := by
  unfold xq_upd
  rw [if_pos ⟨rfl, rfl⟩]
theorem xu_k {α : Type} {F : Nat → Nat → α} {k j k' j' : Nat} {x : α} (h : k' ≠ k) : xq_upd F k j x k' j' = F k' j' := by
  unfold xq_upd
  rw [if_neg (fun q => h q.1)]
theorem xu_j {α : Type} {F : Nat → Nat → α} {k j j' : Nat} {x : α} (h : j' ≠ j) : xq_upd F k j x k j' = F k j' := by
  unfold xq_upd
  rw [if_neg (fun q => h q.2)]
/-! what class and reference make of THE TEXT of riders() -/
def xr_up (F : Nat → Int32) (i : Nat) (v : Int32) (j : Nat) : Int32 := if j = i then v else F j
abbrev xr_Q : Type := Nat × Nat × (Nat → Int32) × (Nat → Int32) × (Nat → Int32)
/-- a letter's bit -/
def xr_bit (s : Int32) : Int32 := (1 : Int32) <<< ((s - (97 : Int32)) &&& 31)
/-- one sign more: where in a LINE (0: its first, 1: its second, 2: later), LINES, MOST, WIDTH, CAN -/
def xr_1 (c : Nat) (s : Int32) : xr_Q → Option xr_Q
  | (0, n, M, W, K) => if 49 ≤ s.toInt ∧ s.toInt ≤ 52 ∧ c + n < 8 then some (1, n, xr_up M (c + n) (s - 48), W, K) else none
  | (1, n, M, W, K) => if 49 ≤ s.toInt ∧ s.toInt ≤ 57 ∧ c + n < 8 then some (2, n + 1, M, xr_up W (c + n) (s - 48), xr_up K (c + n) 0) else none
  | (_ + 2, n, M, W, K) => if s = 59 then some (0, n, M, W, K) else if 97 ≤ s.toInt ∧ s.toInt ≤ 104 ∧ 0 < c + n ∧ (K (c + n - 1)).toInt < (xr_bit s).toInt then some (2, n, M, W, xr_up K (c + n - 1) (K (c + n - 1) ||| xr_bit s)) else none
def xr_p (c : Nat) (t : Nat → Int32) (q0 : xr_Q) : Nat → Option xr_Q
  | 0 => some q0
  | p + 1 => match xr_p c t q0 p with
    | none => none
    | some q => xr_1 c (t p) q
def xr_I (I : Nat → Nat → Int32) (q : xr_Q) (k j : Nat) : Int32 := if k = 5 then q.2.2.1 j else if k = 6 then q.2.2.2.1 j else if k = 4 then q.2.2.2.2 j else I k j
theorem xr_I5 {I : Nat → Nat → Int32} {a n : Nat} {M W K : Nat → Int32} {i : Nat} {v : Int32} : xq_upd (xr_I I (a, n, M, W, K)) 5 i v = xr_I I (a, n, xr_up M i v, W, K) := by
  funext k j
  unfold xq_upd xr_I xr_up
  by_cases h : k = 5
  · subst h
    by_cases hj : j = i <;> simp [hj]
  · simp [h]
theorem xr_I6 {I : Nat → Nat → Int32} {a n : Nat} {M W K : Nat → Int32} {i : Nat} {v : Int32} : xq_upd (xr_I I (a, n, M, W, K)) 6 i v = xr_I I (a, n, M, xr_up W i v, K) := by
  funext k j
  unfold xq_upd xr_I xr_up
  by_cases h : k = 6
  · subst h
    by_cases hj : j = i <;> simp [hj]
  · simp [h]
theorem xr_I4 {I : Nat → Nat → Int32} {a n : Nat} {M W K : Nat → Int32} {i : Nat} {v : Int32} : xq_upd (xr_I I (a, n, M, W, K)) 4 i v = xr_I I (a, n, M, W, xr_up K i v) := by
  funext k j
  unfold xq_upd xr_I xr_up
  by_cases h : k = 4
  · subst h
    by_cases hj : j = i <;> simp [hj]
  · simp [h]
theorem xr_Ia {I : Nat → Nat → Int32} {a a' n n' : Nat} {M W K : Nat → Int32} : xr_I I (a, n, M, W, K) = xr_I I (a', n', M, W, K) := rfl
theorem xr_nat {c n : Nat} (h : c + n ≤ 8) : (Int32.ofNat (c + n)).toInt = ((c + n : Nat) : Int) := xt_nat (by omega)
section XRD
variable {d c n : Nat} {I : Nat → Nat → Int32} {J : Nat → Nat → Int64} {Rr : Nat → Nat → Nat} {M W K : Nat → Int32} {s : Int32}
theorem xr_ix {m : Nat} (h : m < 8) : 0 ≤ (Int32.ofNat m).toInt ∧ (Int32.ofNat m).toInt < ((8 : Nat) : Int) := by
  rw [xt_nat (by omega)]
  omega
theorem xr_ixn {m : Nat} (h : m ≤ 8) : (Int32.ofNat m).toInt.toNat = m := by
  rw [xt_nat (by omega)]
  omega
theorem xr_most (h : c + n < 8) {v : Int32} : xq_D xqP (d + 1) 29 [.ref 3, .int (Int32.ofNat (c + n)), .int v] (xr_I I (0, n, M, W, K), J, Rr) = some (some (.int 1), xr_I I (1, n, xr_up M (c + n) v, W, K), J, Rr) := by
  rw [qX0_takeMost_eq, if_pos (xr_ix h), xr_ixn (by omega)]
  show some (some (Value.int 1), xq_upd (xr_I I (0, n, M, W, K)) 5 (c + n) v, J, Rr) = _
  rw [xr_I5]
  rfl
theorem xr_width (h : c + n < 8) {v : Int32} : xq_D xqP (d + 1) 31 [.ref 3, .int (Int32.ofNat (c + n)), .int v] (xr_I I (1, n, M, W, K), J, Rr) = some (some (.int 2), xr_I I (2, n + 1, M, xr_up W (c + n) v, xr_up K (c + n) 0), J, Rr) := by
  rw [qX0_takeWidth_eq, if_pos (xr_ix h), if_pos (xr_ix h), xr_ixn (by omega)]
  show some (some (Value.int 2), xq_upd (xq_upd (xr_I I (1, n, M, W, K)) 6 (c + n) v) 4 (c + n) 0, J, Rr) = _
  rw [xr_I6, xr_I4]
  rfl
theorem xr_hour {m : Nat} (h : m < 8) {v : Int32} : xq_D xqP (d + 1) 28 [.ref 3, .int (Int32.ofNat m), .int v] (xr_I I (2, n, M, W, K), J, Rr) = if (K m).toInt < v.toInt then some (some (.int 2), xr_I I (2, n, M, W, xr_up K m (K m ||| v)), J, Rr) else some (some (.int (-1)), xr_I I (2, n, M, W, K), J, Rr) := by
  rw [qX0_takeHour_eq, if_neg (by rw [xt_le, xt_nat (by omega)]; simp; omega), if_pos (xr_ix h), xr_ixn (by omega)]
  have e : (xr_I I (2, n, M, W, K)) 4 m = K m := rfl
  by_cases hk : (K m).toInt < v.toInt
  · rw [if_pos hk, if_pos (by show (xr_I I (2, n, M, W, K)) 4 m < v; rw [e, xt_lt]; exact hk), if_pos (xr_ix h), if_pos (xr_ix h)]
    show some (some (Value.int 2), xq_upd (xr_I I (2, n, M, W, K)) 4 m (K m ||| v), J, Rr) = _
    rw [xr_I4]
  · rw [if_neg hk, if_neg (by show ¬ (xr_I I (2, n, M, W, K)) 4 m < v; rw [e, xt_lt]; exact hk)]
end XRD
section XRD2
variable {d c n : Nat} {I : Nat → Nat → Int32} {J : Nat → Nat → Int64} {Rr : Nat → Nat → Nat} {M W K : Nat → Int32} {s : Int32}
/-- what takeSign() answers -/
def xr_an (I : Nat → Nat → Int32) (J : Nat → Nat → Int64) (Rr : Nat → Nat → Nat) (q : xr_Q) (o : Option xr_Q) : Option xq_O := match o with
  | some q' => some (some (.int (Int32.ofNat q'.1)), xr_I I q', J, Rr)
  | none => some (some (.int (-1)), xr_I I q, J, Rr)
theorem xr_1_0 : xr_1 c s (0, n, M, W, K) = if 49 ≤ s.toInt ∧ s.toInt ≤ 52 ∧ c + n < 8 then some (1, n, xr_up M (c + n) (s - 48), W, K) else none := rfl
theorem xr_1_1 : xr_1 c s (1, n, M, W, K) = if 49 ≤ s.toInt ∧ s.toInt ≤ 57 ∧ c + n < 8 then some (2, n + 1, M, xr_up W (c + n) (s - 48), xr_up K (c + n) 0) else none := rfl
theorem xr_1_2 : xr_1 c s (2, n, M, W, K) = if s = 59 then some (0, n, M, W, K) else if 97 ≤ s.toInt ∧ s.toInt ≤ 104 ∧ 0 < c + n ∧ (K (c + n - 1)).toInt < (xr_bit s).toInt then some (2, n, M, W, xr_up K (c + n - 1) (K (c + n - 1) ||| xr_bit s)) else none := rfl
theorem xr_c8 {m : Nat} (h : m ≤ 8) : ((8 : Int32) ≤ Int32.ofNat m) ↔ 8 ≤ m := by
  rw [xt_le, xt_nat (by omega)]
  simp
  omega
theorem xr_sign0 (hc : c + n ≤ 8) : xq_D xqP (d + 2) 30 [.ref 3, .int s, .int (0 : Int32), .int (Int32.ofNat (c + n))] (xr_I I (0, n, M, W, K), J, Rr) = xr_an I J Rr (0, n, M, W, K) (xr_1 c s (0, n, M, W, K)) := by
  rw [qX0_takeSign_eq, if_neg (by simp)]
  rw [xr_1_0]
  by_cases h1 : s.toInt < 49
  · rw [if_pos (by rw [xt_lt]; simpa using h1), if_neg (by omega)]
    rfl
  · rw [if_neg (by rw [xt_lt]; simpa using h1)]
    by_cases h2 : 52 < s.toInt
    · rw [if_pos (by rw [xt_lt]; simpa using h2), if_neg (by omega)]
      rfl
    · rw [if_neg (by rw [xt_lt]; simpa using h2)]
      by_cases h3 : 8 ≤ c + n
      · rw [if_pos ((xr_c8 hc).mpr h3), if_neg (by omega)]
        rfl
      · rw [if_neg (fun q => h3 ((xr_c8 hc).mp q)), if_pos (by omega), xr_most (by omega)]
        rfl
theorem xr_sign1 (hc : c + n ≤ 8) : xq_D xqP (d + 2) 30 [.ref 3, .int s, .int (1 : Int32), .int (Int32.ofNat (c + n))] (xr_I I (1, n, M, W, K), J, Rr) = xr_an I J Rr (1, n, M, W, K) (xr_1 c s (1, n, M, W, K)) := by
  rw [qX0_takeSign_eq, if_pos (by decide), if_neg (by simp)]
  rw [xr_1_1]
  by_cases h1 : s.toInt < 49
  · rw [if_pos (by rw [xt_lt]; simpa using h1), if_neg (by omega)]
    rfl
  · rw [if_neg (by rw [xt_lt]; simpa using h1)]
    by_cases h2 : 57 < s.toInt
    · rw [if_pos (by rw [xt_lt]; simpa using h2), if_neg (by omega)]
      rfl
    · rw [if_neg (by rw [xt_lt]; simpa using h2)]
      by_cases h3 : 8 ≤ c + n
      · rw [if_pos ((xr_c8 hc).mpr h3), if_neg (by omega)]
        rfl
      · rw [if_neg (fun q => h3 ((xr_c8 hc).mp q)), if_pos (by omega), xr_width (by omega)]
        rfl
theorem xr_sub1 {m : Nat} (h : m ≤ 8) (h0 : 0 < m) : Int32.ofNat m - (1 : Int32) = Int32.ofNat (m - 1) := by
  rw [xt_eq, xt_sub (by rw [xt_nat (by omega)]; simp; omega) (by rw [xt_nat (by omega)]; simp; omega), xt_nat (by omega), xt_nat (by omega)]
  simp
  omega
theorem xr_sign2 (hc : c + n ≤ 8) : xq_D xqP (d + 2) 30 [.ref 3, .int s, .int (2 : Int32), .int (Int32.ofNat (c + n))] (xr_I I (2, n, M, W, K), J, Rr) = xr_an I J Rr (2, n, M, W, K) (xr_1 c s (2, n, M, W, K)) := by
  rw [qX0_takeSign_eq, if_pos (by decide), if_pos (by decide)]
  rw [xr_1_2]
  by_cases h0 : s = 59
  · rw [if_neg (by simp [h0]), if_pos h0]
    rfl
  · rw [if_pos h0, if_neg h0]
    by_cases h1 : s.toInt < 97
    · rw [if_pos (by rw [xt_lt]; simpa using h1), if_neg (by omega)]
      rfl
    · rw [if_neg (by rw [xt_lt]; simpa using h1)]
      by_cases h2 : 104 < s.toInt
      · rw [if_pos (by rw [xt_lt]; simpa using h2), if_neg (by omega)]
        rfl
      · rw [if_neg (by rw [xt_lt]; simpa using h2)]
        by_cases h3 : c + n = 0
        · rw [if_pos (by rw [h3]; decide), if_neg (by omega)]
          rfl
        · rw [if_neg (by rw [xt_le, xt_nat (by omega)]; simp; omega), xr_sub1 hc (by omega)]
          show xq_bI (xq_D xqP (d + 1) 28 [.ref 3, .int (Int32.ofNat (c + n - 1)), .int (xr_bit s)] (xr_I I (2, n, M, W, K), J, Rr)) _ = _
          rw [xr_hour (by omega)]
          by_cases h4 : (K (c + n - 1)).toInt < (xr_bit s).toInt
          · rw [if_pos h4, if_pos ⟨by omega, by omega, by omega, h4⟩]
            rfl
          · rw [if_neg h4, if_neg (fun q => h4 q.2.2.2)]
            rfl
end XRD2
/-- how the reading of riders() ends: at a fault's place, or with all LINES -/
def xr_out (c n0 stop : Nat) (t : Nat → Int32) : Nat → Nat → xr_Q → (Nat × xr_Q) ⊕ xr_Q
  | 0, _, q => if 76 < n0 ∨ q.1 < 2 then .inl (stop, q) else .inr q
  | k + 1, p, q => match xr_1 c (t p) q with
    | none => .inl (p, q)
    | some q' => xr_out c n0 stop t k (p + 1) q'
def xr_ans (c : Nat) (I : Nat → Nat → Int32) (J : Nat → Nat → Int64) (Rr : Nat → Nat → Nat) (o : (Nat × xr_Q) ⊕ xr_Q) : Option xq_O := match o with
  | .inl x => some (some (.int ((-1 : Int32) - Int32.ofNat x.1)), xr_I I x.2, J, Rr)
  | .inr q => some (some (.int (Int32.ofNat q.2.1)), xq_upd (xr_I I q) 3 6 (Int32.ofNat c + Int32.ofNat q.2.1), J, Rr)
theorem xr_1_ok {c : Nat} {s : Int32} {q q' : xr_Q} (h : xr_1 c s q = some q') (h1 : q.1 ≤ 2) (h2 : c + q.2.1 ≤ 8) : q'.1 ≤ 2 ∧ c + q'.2.1 ≤ 8 ∧ q'.2.1 = q.2.1 + (if q.1 = 1 then 1 else 0) := by
  obtain ⟨a, n, M, W, K⟩ := q
  have h1 : a ≤ 2 := h1
  have h2 : c + n ≤ 8 := h2
  match a, h1, h with
  | 0, _, h =>
    rw [xr_1_0] at h
    split at h
    · cases h
      exact ⟨by show 1 ≤ 2; decide, h2, rfl⟩
    · cases h
  | 1, _, h =>
    rw [xr_1_1] at h
    split at h
    · rename_i q
      cases h
      exact ⟨by show 2 ≤ 2; decide, by show c + (n + 1) ≤ 8; omega, rfl⟩
    · cases h
  | 2, _, h =>
    rw [xr_1_2] at h
    split at h
    · cases h
      exact ⟨by show 0 ≤ 2; decide, h2, rfl⟩
    · split at h
      · cases h
        exact ⟨by show 2 ≤ 2; decide, h2, rfl⟩
      · cases h
  | a + 3, h1, _ => omega
section XRD3
variable {d c : Nat} {I : Nat → Nat → Int32} {J : Nat → Nat → Int64} {Rr : Nat → Nat → Nat} {s : Int32}
theorem xr_sign {q : xr_Q} (h1 : q.1 ≤ 2) (hc : c + q.2.1 ≤ 8) : xq_D xqP (d + 2) 30 [.ref 3, .int s, .int (Int32.ofNat q.1), .int (Int32.ofNat (c + q.2.1))] (xr_I I q, J, Rr) = xr_an I J Rr q (xr_1 c s q) := by
  obtain ⟨a, n, M, W, K⟩ := q
  match a, h1 with
  | 0, _ => exact xr_sign0 hc
  | 1, _ => exact xr_sign1 hc
  | 2, _ => exact xr_sign2 hc
  | a + 3, h1 => exact absurd h1 (by show ¬ a + 3 ≤ 2; omega)
theorem xr_add {a b : Nat} (h : a + b ≤ 1000) : Int32.ofNat a + Int32.ofNat b = Int32.ofNat (a + b) := by
  rw [xt_eq, xt_add (by rw [xt_nat (by omega), xt_nat (by omega)]; omega) (by rw [xt_nat (by omega), xt_nat (by omega)]; omega), xt_nat (by omega), xt_nat (by omega), xt_nat (by omega)]
  omega
theorem xr_lt {a b : Nat} (ha : a ≤ 1000) (hb : b ≤ 1000) : Int32.ofNat a < Int32.ofNat b ↔ a < b := by
  rw [xt_lt, xt_nat (by omega), xt_nat (by omega)]
  omega
theorem xr_le {a b : Nat} (ha : a ≤ 1000) (hb : b ≤ 1000) : Int32.ofNat a ≤ Int32.ofNat b ↔ a ≤ b := by
  rw [xt_le, xt_nat (by omega), xt_nat (by omega)]
  omega
theorem xr_ne1 {a : Nat} (ha : a ≤ 1000) : ¬ Int32.ofNat a = (-1 : Int32) := by
  rw [xt_eq, xt_nat (by omega)]
  simp
theorem xr_76 {b : Nat} (hb : b ≤ 1000) : (76 : Int32) < Int32.ofNat b ↔ 76 < b := xr_lt (a := 76) (by omega) hb
theorem xr_2 {b : Nat} (hb : b ≤ 1000) : (2 : Int32) ≤ Int32.ofNat b ↔ 2 ≤ b := xr_le (a := 2) (by omega) hb
theorem xr_loop {n0 stop : Nat} (hc : c ≤ 8) (hI : I 3 6 = Int32.ofNat c) (hn : I 1 1 = Int32.ofNat n0) (hn0 : n0 ≤ 80) (hs : stop ≤ n0) (hs2 : stop ≤ 76) : ∀ (k p : Nat) (q : xr_Q), p + k = stop → q.1 ≤ 2 → c + q.2.1 ≤ 8 → qX0_readRiders_h27 (d + 2) (Int32.ofNat stop) (Int32.ofNat q.1) (Int32.ofNat q.2.1) (Int32.ofNat p) (xr_I I q, J, Rr) = xr_ans c I J Rr (xr_out c n0 stop (I 2) k p q)
  | 0, p, q, hp, h1, h2 => by
    have e1 : (xr_I I q) 1 1 = Int32.ofNat n0 := hn
    have e2 : (xr_I I q) 3 6 = Int32.ofNat c := hI
    rw [qX0_readRiders_h27_eq, if_pos ((xr_le (by omega) (by omega)).mpr (by omega))]
    show (if (76 : Int32) < (xr_I I q) 1 1 then _ else _) = _
    unfold xr_out
    rw [e1]
    by_cases h3 : 76 < n0
    · rw [if_pos ((xr_76 (by omega)).mpr h3), if_pos (Or.inl h3)]
      rfl
    · rw [if_neg (fun z => h3 ((xr_76 (by omega)).mp z))]
      by_cases h4 : q.1 < 2
      · rw [if_neg (fun z => by have := (xr_2 (by omega)).mp z; omega), if_pos (Or.inr h4)]
        rfl
      · rw [if_pos ((xr_2 (by omega)).mpr (by omega)), if_neg (fun z => z.elim h3 h4)]
        show some (some (Value.int (Int32.ofNat q.2.1)), xq_upd (xr_I I q) 3 6 ((xr_I I q) 3 6 + Int32.ofNat q.2.1), J, Rr) = _
        rw [e2]
        rfl
  | k + 1, p, q, hp, h1, h2 => by
    have e1 : (xr_I I q) 1 1 = Int32.ofNat n0 := hn
    have e2 : (xr_I I q) 3 6 = Int32.ofNat c := hI
    have hat : xq_D xqP (d + 2) 93 [.ref 1, .int (Int32.ofNat p)] (xr_I I q, J, Rr) = some (some (.int (I 2 p)), xr_I I q, J, Rr) := by
      rw [qX6_at_eq, if_neg (by rw [xt_lt, xt_nat (by omega)]; simp), if_neg (by show ¬ (xr_I I q) 1 1 ≤ _; rw [e1, xr_le (by omega) (by omega)]; omega), if_pos (by rw [xt_nat (by omega)]; omega)]
      have e3 : (Int32.ofNat p).toInt.toNat = p := by
        rw [xt_nat (by omega)]
        omega
      rw [e3]
      rfl
    rw [qX0_readRiders_h27_eq, if_neg (fun z => by have := (xr_le (by omega) (by omega)).mp z; omega), hat, xb_I1]
    show xq_bI (xq_D xqP (d + 2) 30 [.ref 3, .int (I 2 p), .int (Int32.ofNat q.1), .int ((xr_I I q) 3 6 + Int32.ofNat q.2.1)] (xr_I I q, J, Rr)) _ = _
    rw [e2, xr_add (by omega), xr_sign h1 h2]
    unfold xr_out
    cases hx : xr_1 c (I 2 p) q with
    | none => rfl
    | some q' =>
      obtain ⟨g1, g2, g3⟩ := xr_1_ok hx h1 h2
      have ih := xr_loop hc hI hn hn0 hs hs2 k (p + 1) q' (by omega) g1 g2
      show (if ¬ Int32.ofNat q'.1 = (-1 : Int32) then _ else _) = _
      rw [if_pos (xr_ne1 (by omega))]
      have e4 : Int32.ofNat p + (1 : Int32) = Int32.ofNat (p + 1) := xr_add (a := p) (b := 1) (by omega)
      by_cases h5 : q.1 = 1
      · rw [if_neg (by rw [h5]; decide), qX0_readRiders_h76_eq, e4]
        have e5 : Int32.ofNat q.2.1 + (1 : Int32) = Int32.ofNat q'.2.1 := by
          rw [g3, if_pos h5]
          exact xr_add (a := q.2.1) (b := 1) (by omega)
        rw [e5]
        exact ih
      · rw [if_pos (by rw [show (1 : Int32) = Int32.ofNat 1 from rfl, xt_eq, xt_nat (by omega), xt_nat (by omega)]; omega), qX0_readRiders_h76_eq, e4]
        have e5 : Int32.ofNat q.2.1 + (0 : Int32) = Int32.ofNat q'.2.1 := by
          rw [g3, if_neg h5]
          exact xr_add (a := q.2.1) (b := 0) (by omega)
        rw [e5]
        exact ih
end XRD3
section XRD4
variable {d c : Nat} {I : Nat → Nat → Int32} {J : Nat → Nat → Int64} {Rr : Nat → Nat → Nat}
theorem xr_I0 : xr_I I (0, 0, I 5, I 6, I 4) = I := by
  funext k j
  unfold xr_I
  by_cases h5 : k = 5
  · simp [h5]
  · by_cases h6 : k = 6
    · simp [h6]
    · by_cases h4 : k = 4
      · simp [h4]
      · simp [h4, h5, h6]
theorem xr_fk : xq_D xqP (d + 1) 122 [.ref 0] (I, J, Rr) = some (none, xq_upd (xq_upd I 63 0 0) 63 1 0, J, Rr) := by
  rw [qX7_forgetKept_eq, qX7_forgetKept_h2_eq, if_neg (by decide), if_pos (by decide), qX7_forgetKept_h2_eq, if_neg (by decide), if_pos (by decide), qX7_forgetKept_h2_eq, if_pos (by decide)]
  rfl
/-- riders() of the class: how it reads -/
def xr_go (c n0 : Nat) (t : Nat → Int32) (q0 : xr_Q) : (Nat × xr_Q) ⊕ xr_Q := xr_out c n0 (if 76 < n0 then 76 else n0) t (if 76 < n0 then 76 else n0) 0 q0
theorem xr_read {n0 : Nat} (hc : c ≤ 8) (hI : I 3 6 = Int32.ofNat c) (hn : I 1 1 = Int32.ofNat n0) (hn0 : n0 ≤ 80) (h0 : 0 < n0) : xq_D xqP (d + 3) 27 [.ref 3, .ref 1] (I, J, Rr) = xr_ans c I J Rr (xr_go c n0 (I 2) (0, 0, I 5, I 6, I 4)) := by
  rw [qX0_readRiders_eq]
  have e0 : ¬ Int32.ofNat n0 = 0 := by
    rw [xt_eq, xt_nat (by omega)]
    simp
    omega
  rw [if_pos (show ¬ (I 1 1) = 0 by rw [hn]; exact e0)]
  have e1 : (if (76 : Int32) < I 1 1 then (76 : Int32) else I 1 1) = Int32.ofNat (if 76 < n0 then 76 else n0) := by
    rw [hn]
    by_cases h : 76 < n0
    · rw [if_pos ((xr_76 (by omega)).mpr h), if_pos h]
      rfl
    · rw [if_neg (fun z => h ((xr_76 (by omega)).mp z)), if_neg h]
  show qX0_readRiders_h27 (d + 2) (if (76 : Int32) < I 1 1 then (76 : Int32) else I 1 1) 0 0 0 (I, J, Rr) = _
  rw [e1]
  have hl := xr_loop (d := d) (c := c) (I := I) (J := J) (Rr := Rr) (n0 := n0) (stop := if 76 < n0 then 76 else n0) hc hI hn hn0 (by split <;> omega) (by split <;> omega) (if 76 < n0 then 76 else n0) 0 (0, 0, I 5, I 6, I 4) (by omega) (by show 0 ≤ 2; decide) (by show c + 0 ≤ 8; omega)
  rw [xr_I0] at hl
  exact hl
theorem xr_out_ok {n0 stop : Nat} {t : Nat → Int32} : ∀ (k p : Nat) (q q' : xr_Q), xr_out c n0 stop t k p q = .inr q' → q.1 ≤ 2 → c + q.2.1 ≤ 8 → (q.1 = 2 → 0 < q.2.1) → 2 ≤ q'.1 ∧ 0 < q'.2.1 ∧ c + q'.2.1 ≤ 8
  | 0, p, q, q', h, h1, h2, h3 => by
    unfold xr_out at h
    split at h
    · cases h
    · rename_i hx
      cases h
      exact ⟨by omega, h3 (by omega), h2⟩
  | k + 1, p, q, q', h, h1, h2, h3 => by
    unfold xr_out at h
    split at h
    · cases h
    · rename_i q1 hx
      obtain ⟨g1, g2, g3⟩ := xr_1_ok hx h1 h2
      refine xr_out_ok k (p + 1) q1 q' h g1 g2 (fun h5 => ?_)
      rw [g3]
      obtain ⟨a, n, M, W, K⟩ := q
      match a, h1, hx, h3 with
      | 0, _, hx, _ =>
        rw [xr_1_0] at hx
        split at hx
        · cases hx
          exact absurd h5 (by show ¬ 1 = 2; decide)
        · cases hx
      | 1, _, hx, _ =>
        show 0 < n + 1
        omega
      | 2, _, hx, h3 =>
        have := h3 rfl
        show 0 < n + 0
        have h3 : 0 < n := this
        omega
      | a + 3, h1, _, _ =>
        have h1 : a + 3 ≤ 2 := h1
        omega
theorem xr_clsA {v : Int32} {S1 : xq_S} (h : xq_D xqP (d + 1) 27 [.ref 3, .ref 1] (I, J, Rr) = some (some (.int v), S1)) (hv : v ≤ 0) : xq_D xqP (d + 2) 158 [.ref 0] (I, J, Rr) = some (some (.int v), xq_upd S1.1 1 1 0, S1.2) := by
  rw [qX7_riders_eq, h, xb_I1, qX6_empty_eq, xb_V1, if_pos hv]
theorem xr_clsB {v : Int32} {S1 : xq_S} (h : xq_D xqP (d + 1) 27 [.ref 3, .ref 1] (I, J, Rr) = some (some (.int v), S1)) (hv : ¬ v ≤ 0) : xq_D xqP (d + 2) 158 [.ref 0] (I, J, Rr) = some (some (.int v), xq_upd (xq_upd (xq_upd (xq_upd S1.1 1 1 0) 24 2 0) 63 0 0) 63 1 0, S1.2) := by
  obtain ⟨I1, J1, R1⟩ := S1
  rw [qX7_riders_eq, h, xb_I1, qX6_empty_eq, xb_V1, if_neg hv, qX2_clear_eq, xb_V1, xr_fk, xb_V1]
theorem xr_outp {n0 stop : Nat} {t : Nat → Int32} (hs : stop ≤ 80) : ∀ (k p : Nat) (q : xr_Q) (x : Nat × xr_Q), p + k ≤ 80 → xr_out c n0 stop t k p q = .inl x → x.1 ≤ 80
  | 0, p, q, x, hp, h => by
    unfold xr_out at h
    split at h
    · cases h
      exact hs
    · cases h
  | k + 1, p, q, x, hp, h => by
    unfold xr_out at h
    split at h
    · cases h
      show p ≤ 80
      omega
    · exact xr_outp hs k _ _ x (by omega) h
theorem xr_neg {m : Nat} (h : m ≤ 1000) : (-1 : Int32) - Int32.ofNat m ≤ 0 := by
  have e := xt_nat (n := m) (by omega)
  rw [xt_le, xt_sub (by rw [e]; simp; omega) (by rw [e]; simp; omega), e]
  simp
  omega
/-- the class's riders() -/
def xr_clsO (c : Nat) (I : Nat → Nat → Int32) (J : Nat → Nat → Int64) (Rr : Nat → Nat → Nat) (o : (Nat × xr_Q) ⊕ xr_Q) : Option xq_O := match o with
  | .inl x => some (some (.int ((-1 : Int32) - Int32.ofNat x.1)), xq_upd (xr_I I x.2) 1 1 0, J, Rr)
  | .inr q => some (some (.int (Int32.ofNat q.2.1)), xq_upd (xq_upd (xq_upd (xq_upd (xq_upd (xr_I I q) 3 6 (Int32.ofNat c + Int32.ofNat q.2.1)) 1 1 0) 24 2 0) 63 0 0) 63 1 0, J, Rr)
theorem xr_cls {n0 : Nat} (hc : c ≤ 8) (hI : I 3 6 = Int32.ofNat c) (hn : I 1 1 = Int32.ofNat n0) (hn0 : n0 ≤ 80) (h0 : 0 < n0) : xq_D xqP (d + 4) 158 [.ref 0] (I, J, Rr) = xr_clsO c I J Rr (xr_go c n0 (I 2) (0, 0, I 5, I 6, I 4)) := by
  have hr := xr_read (d := d) (J := J) (Rr := Rr) hc hI hn hn0 h0
  cases ho : xr_go c n0 (I 2) (0, 0, I 5, I 6, I 4) with
  | inl x =>
    have hx := xr_outp (c := c) (n0 := n0) (t := I 2) (stop := if 76 < n0 then 76 else n0) (by split <;> omega) _ 0 _ x (by split <;> omega) ho
    rw [ho] at hr
    exact xr_clsA (d := d + 2) hr (xr_neg (by omega))
  | inr q =>
    obtain ⟨g1, g2, g3⟩ := xr_out_ok _ _ _ _ ho (by show 0 ≤ 2; decide) (by show c + 0 ≤ 8; omega) (fun h => absurd h (by show ¬ 0 = 2; decide))
    rw [ho] at hr
    refine xr_clsB (d := d + 2) hr ?_
    rw [xt_le, xt_nat (by omega)]
    simp
    omega
end XRD4
