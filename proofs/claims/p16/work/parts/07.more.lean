/-! LONGS -/
theorem z64 (x : Int64) : -9223372036854775808 ≤ x.toInt ∧ x.toInt ≤ 9223372036854775808 - 1 := ⟨by have := x.le_toInt; simpa using this, by have := x.toInt_lt; omega⟩
def zml (q : zI) (x : Int64) : Prop := zmem q x.toInt
theorem zof64 (x : Int64) : Int64.ofInt x.toInt = x := Int64.ofInt_toInt x
def zl_add (a b : zI) : zI := zop2 9223372036854775808 (fun x y => (x + y).bmod 18446744073709551616) (zr_add 9223372036854775808) a b
def zl_sub (a b : zI) : zI := zop2 9223372036854775808 (fun x y => (x - y).bmod 18446744073709551616) (zr_sub 9223372036854775808) a b
def zl_mul (a b : zI) : zI := zop2 9223372036854775808 (fun x y => (x * y).bmod 18446744073709551616) (zr_mul 9223372036854775808) a b
def zl_div (a b : zI) : zI := zop2 9223372036854775808 (fun x y => (x.tdiv y).bmod 18446744073709551616) zr_div a b
def zl_rem (a b : zI) : zI := zop2 9223372036854775808 (fun x y => x.tmod y) zr_rem a b
def zl_and (a b : zI) : zI := zop2 9223372036854775808 (fun x y => (Int64.ofInt x &&& Int64.ofInt y).toInt) (fun _ _ => none) a b
theorem zl_add_ok {a b : zI} {x y : Int64} (hx : zml a x) (hy : zml b y) : zml (zl_add a b) (x + y) := by
  have e : (x + y).toInt = (x.toInt + y.toInt).bmod 18446744073709551616 := Int64.toInt_add x y
  have h := z64 (x + y)
  unfold zml; rw [e] at h ⊢
  exact zop2_ok (f := fun x y => (x + y).bmod 18446744073709551616) h (fun q hq => zr_add_ok rfl hx hy hq) hx hy
theorem zl_sub_ok {a b : zI} {x y : Int64} (hx : zml a x) (hy : zml b y) : zml (zl_sub a b) (x - y) := by
  have e : (x - y).toInt = (x.toInt - y.toInt).bmod 18446744073709551616 := Int64.toInt_sub x y
  have h := z64 (x - y)
  unfold zml; rw [e] at h ⊢
  exact zop2_ok (f := fun x y => (x - y).bmod 18446744073709551616) h (fun q hq => zr_sub_ok rfl hx hy hq) hx hy
theorem zl_mul_ok {a b : zI} {x y : Int64} (hx : zml a x) (hy : zml b y) : zml (zl_mul a b) (x * y) := by
  have e : (x * y).toInt = (x.toInt * y.toInt).bmod 18446744073709551616 := Int64.toInt_mul x y
  have h := z64 (x * y)
  unfold zml; rw [e] at h ⊢
  exact zop2_ok (f := fun x y => (x * y).bmod 18446744073709551616) h (fun q hq => zr_mul_ok rfl hx hy hq) hx hy
theorem zl_div_ok {a b : zI} {x y : Int64} (hx : zml a x) (hy : zml b y) : zml (zl_div a b) (x / y) := by
  have e : (x / y).toInt = (x.toInt.tdiv y.toInt).bmod 18446744073709551616 := Int64.toInt_div x y
  have h := z64 (x / y)
  unfold zml; rw [e] at h ⊢
  exact zop2_ok (f := fun x y => (x.tdiv y).bmod 18446744073709551616) h (fun q hq => zr_div_ok rfl (z64 x).2 hx hy hq) hx hy
theorem zrem64 (x y : Int64) : (x - x / y * y).toInt = x.toInt.tmod y.toInt := by
  rw [Int64.toInt_sub, Int64.toInt_mul, Int64.toInt_div]
  have h : x.toInt.tmod y.toInt = x.toInt - y.toInt * (x.toInt.tdiv y.toInt) := Int.tmod_def _ _
  rw [Int.bmod_mul_bmod, Int.sub_bmod_bmod, ← Int64.toInt_mod, ← Int64.toInt_bmod (x % y), Int64.toInt_mod, h, Int.mul_comm y.toInt]
theorem zl_rem_ok {a b : zI} {x y : Int64} (hx : zml a x) (hy : zml b y) : zml (zl_rem a b) (x - x / y * y) := by
  have e := zrem64 x y
  have h := z64 (x - x / y * y)
  unfold zml; rw [e] at h ⊢
  exact zop2_ok (f := fun x y => x.tmod y) h (fun q hq => zr_rem_ok hx hy hq) hx hy
theorem zl_and_ok {a b : zI} {x y : Int64} (hx : zml a x) (hy : zml b y) : zml (zl_and a b) (x &&& y) := by
  have h := z64 (x &&& y)
  have k := zop2_ok (B := 9223372036854775808) (f := fun x y => (Int64.ofInt x &&& Int64.ofInt y).toInt) (r := fun _ _ => none) (a := a) (b := b) (x := x.toInt) (y := y.toInt) (by simpa only [zof64] using h) (fun q hq => by cases hq) hx hy
  simp only [zof64] at k; exact k
def zl_neg (a : zI) : zI := zl_sub (0, 0) a
theorem zl_neg_ok {a : zI} {x : Int64} (hx : zml a x) : zml (zl_neg a) (-x) := by
  have h := zl_sub_ok (a := (0, 0)) (x := (0 : Int64)) ⟨Int.le_refl _, Int.le_refl _⟩ hx
  rwa [show (0 : Int64) - x = -x from Int64.zero_sub x] at h
def zl_shl (a b : zI) : zI := zop2 9223372036854775808 (fun x y => (Int64.ofInt x <<< ((Int32.ofInt y).toInt64 &&& 63)).toInt) (fun _ _ => none) a b
theorem zl_shl_ok {a b : zI} {x : Int64} {y : Int32} (hx : zml a x) (hy : zmi b y) : zml (zl_shl a b) (x <<< (y.toInt64 &&& 63)) := by
  have h := z64 (x <<< (y.toInt64 &&& 63))
  have k := zop2_ok (B := 9223372036854775808) (f := fun x y => (Int64.ofInt x <<< ((Int32.ofInt y).toInt64 &&& 63)).toInt) (r := fun _ _ => none) (a := a) (b := b) (x := x.toInt) (y := y.toInt) (by simpa only [zof64, zof] using h) (fun q hq => by cases hq) hx hy
  simp only [zof64, zof] at k; exact k
def zl_shr (a b : zI) : zI := zop2 9223372036854775808 (fun x y => (Int64.ofInt x >>> ((Int32.ofInt y).toInt64 &&& 63)).toInt) (fun _ _ => none) a b
theorem zl_shr_ok {a b : zI} {x : Int64} {y : Int32} (hx : zml a x) (hy : zmi b y) : zml (zl_shr a b) (x >>> (y.toInt64 &&& 63)) := by
  have h := z64 (x >>> (y.toInt64 &&& 63))
  have k := zop2_ok (B := 9223372036854775808) (f := fun x y => (Int64.ofInt x >>> ((Int32.ofInt y).toInt64 &&& 63)).toInt) (r := fun _ _ => none) (a := a) (b := b) (x := x.toInt) (y := y.toInt) (by simpa only [zof64, zof] using h) (fun q hq => by cases hq) hx hy
  simp only [zof64, zof] at k; exact k
def zl_cmp (a b : zI) : zI := if zle (a.2 + 1) b.1 then (-1, -1) else if zle (b.2 + 1) a.1 then (1, 1) else if zle a.2 a.1 && zle b.2 b.1 then (0, 0) else (-1, 1)
theorem zl_cmp_ok {a b : zI} {x y : Int64} (hx : zml a x) (hy : zml b y) : zmi (zl_cmp a b) (lg_cmp x y) := by
  obtain ⟨h1, h2⟩ := hx
  obtain ⟨h3, h4⟩ := hy
  have k1 : (1 : Int32).toInt = 1 := by decide
  have k2 : (-1 : Int32).toInt = -1 := by decide
  have k0 : (0 : Int32).toInt = 0 := by decide
  have hv : ((lg_cmp x y).toInt = 1 ∧ y.toInt < x.toInt) ∨ ((lg_cmp x y).toInt = 0 ∧ x.toInt = y.toInt) ∨ ((lg_cmp x y).toInt = -1 ∧ x.toInt < y.toInt) := by
    unfold lg_cmp
    by_cases c1 : x > y
    · rw [if_pos c1]; exact Or.inl ⟨k1, Int64.lt_iff_toInt_lt.mp c1⟩
    · rw [if_neg c1]
      by_cases c2 : x = y
      · rw [if_pos c2]; exact Or.inr (Or.inl ⟨k0, by rw [c2]⟩)
      · rw [if_neg c2]
        have n1 : ¬ y.toInt < x.toInt := fun h => c1 (Int64.lt_iff_toInt_lt.mpr h)
        have n2 : ¬ x.toInt = y.toInt := fun h => c2 (Int64.toInt_inj.mp h)
        exact Or.inr (Or.inr ⟨k2, by omega⟩)
  unfold zmi zmem zl_cmp
  repeat' split
  all_goals (simp only [Bool.and_eq_true, zle_iff] at *; omega)
def zl_l2i (a : zI) : zI := if zin 2147483648 a.1 a.2 then a else if zle a.2 a.1 then (a.1.bmod 4294967296, a.1.bmod 4294967296) else (-2147483648, 2147483647)
theorem zl_l2i_ok {a : zI} {x : Int64} (hx : zml a x) : zmi (zl_l2i a) x.toInt32 := by
  have e : x.toInt32.toInt = x.toInt.bmod 4294967296 := Int64.toInt_toInt32 x
  have h := z32 x.toInt32
  obtain ⟨h1, h2⟩ := hx
  unfold zmi zl_l2i
  split
  · rename_i c
    rw [zin_iff] at c
    rw [e, zbm (B := 2147483648) rfl (by omega) (by omega)]
    exact ⟨h1, h2⟩
  · split
    · rename_i c
      rw [zle_iff] at c
      rw [e, show a.1 = x.toInt by omega]
      exact ⟨Int.le_refl _, Int.le_refl _⟩
    · exact ⟨h.1, by dsimp only; omega⟩
/-- narrowing to w values from lo on -/
def zi_nar (lo hi : Int) (f : Int → Int) (a : zI) : zI := if zle lo a.1 && zle a.2 hi then a else if zle a.2 a.1 then (f a.1, f a.1) else (lo, hi)
theorem zi_nar_ok {lo hi : Int} {f : Int → Int} {a : zI} {x y : Int32} (hx : zmi a x) (hy : y.toInt = f x.toInt) (hr : lo ≤ y.toInt ∧ y.toInt ≤ hi) (hs : lo ≤ x.toInt → x.toInt ≤ hi → f x.toInt = x.toInt) : zmi (zi_nar lo hi f a) y := by
  obtain ⟨h1, h2⟩ := hx
  unfold zmi zi_nar
  split
  · rename_i c
    simp only [Bool.and_eq_true, zle_iff] at c
    rw [hy, hs (by omega) (by omega)]
    exact ⟨h1, h2⟩
  · split
    · rename_i c
      rw [zle_iff] at c
      rw [hy, show a.1 = x.toInt by omega]
      exact ⟨Int.le_refl _, Int.le_refl _⟩
    · exact hr
def zi_b (a : zI) : zI := zi_nar (-128) 127 (fun x => x.bmod 256) a
theorem zi_b_ok {a : zI} {x : Int32} (hx : zmi a x) : zmi (zi_b a) x.toInt8.toInt32 := by
  have e : x.toInt8.toInt32.toInt = x.toInt.bmod 256 := by rw [Int8.toInt_toInt32]; exact Int32.toInt_toInt8 x
  refine zi_nar_ok hx e ?_ (fun h1 h2 => zbm (B := 128) rfl h1 (by omega))
  rw [Int8.toInt_toInt32]
  have h1 := x.toInt8.le_toInt
  have h2 := x.toInt8.toInt_lt
  omega
def zi_s (a : zI) : zI := zi_nar (-32768) 32767 (fun x => x.bmod 65536) a
theorem zi_s_ok {a : zI} {x : Int32} (hx : zmi a x) : zmi (zi_s a) x.toInt16.toInt32 := by
  have e : x.toInt16.toInt32.toInt = x.toInt.bmod 65536 := by rw [Int16.toInt_toInt32]; exact Int32.toInt_toInt16 x
  refine zi_nar_ok hx e ?_ (fun h1 h2 => zbm (B := 32768) rfl h1 (by omega))
  rw [Int16.toInt_toInt32]
  have h1 := x.toInt16.le_toInt
  have h2 := x.toInt16.toInt_lt
  omega
def zi_c (a : zI) : zI := zi_nar 0 65535 (fun x => x % 65536) a
theorem zi_c_ok {a : zI} {x : Int32} (hx : zmi a x) : zmi (zi_c a) (x.toUInt32 % 65536).toInt32 := by
  have e0 : (x.toUInt32 % 65536).toInt32.toInt = ((x.toBitVec.toNat % 65536 : Nat) : Int) := by
    rw [pk_char, nI_toInt (by omega)]
  have e1 : ((x.toBitVec.toNat % 65536 : Nat) : Int) = x.toInt % 65536 := by
    have e : x.toInt = x.toBitVec.toInt := rfl
    rw [BitVec.toInt_eq_toNat_cond] at e
    split at e <;> omega
  refine zi_nar_ok hx (e0.trans e1) (by rw [e0]; omega) (fun h1 h2 => by omega)
def zr_ushr (a b : zI) : Option zI := if zle 0 b.1 && (zle b.2 31 && zle b.2 b.1) then (if zle 0 a.1 then some (a.1 / 2 ^ b.1.toNat, a.2 / 2 ^ b.1.toNat) else if zle a.2 a.1 then none else if zle 1 b.1 then some (0, 2 ^ (32 - b.1.toNat) - 1) else none) else none
def zush (x y : Int32) : Int32 := (x.toUInt32 >>> (y.toUInt32 &&& Int32.toUInt32 31)).toInt32
def zi_ushr (a b : zI) : zI := zop2 2147483648 (fun x y => (zush (Int32.ofInt x) (Int32.ofInt y)).toInt) zr_ushr a b
theorem zush_amt : ∀ j, j < 32 → (((nI j).toUInt32 &&& Int32.toUInt32 31).toBitVec % 32).toNat = j := by decide +kernel
theorem zi_ushr_ok {a b : zI} {x y : Int32} (hx : zmi a x) (hy : zmi b y) : zmi (zi_ushr a b) (zush x y) := by
  have h := z32 (zush x y)
  have k := zop2_ok (B := 2147483648) (f := fun x y => (zush (Int32.ofInt x) (Int32.ofInt y)).toInt) (r := zr_ushr) (a := a) (b := b) (x := x.toInt) (y := y.toInt) (by simpa only [zof] using h) ?_ hx hy
  · simp only [zof] at k; exact k
  · intro q hq
    simp only [zof]
    obtain ⟨h1, h2⟩ := hx
    obtain ⟨h3, h4⟩ := hy
    unfold zr_ushr at hq
    split at hq
    · rename_i c1
      simp only [Bool.and_eq_true, zle_iff] at c1
      obtain ⟨c1, c2, c3⟩ := c1
      obtain ⟨j, rfl, ej⟩ := zsh_nI (y := y) (by omega)
      have hn : (zush x (nI j)).toBitVec.toNat = x.toBitVec.toNat / 2 ^ j := pk_ushr x (nI j) j (zush_amt j (by omega))
      have ej2 : b.1.toNat = j := by omega
      have p0 : (0 : Int) < 2 ^ j := Int.pow_pos (by omega)
      split at hq
      · rename_i c4
        rw [zle_iff] at c4
        cases hq
        obtain ⟨e1, l1⟩ := zbits (x := x) (by omega)
        have hle : x.toBitVec.toNat / 2 ^ j ≤ x.toBitVec.toNat := Nat.div_le_self _ _
        have e2 := zbits' (x := zush x (nI j)) (by omega)
        have e3 : ((x.toBitVec.toNat / 2 ^ j : Nat) : Int) = x.toInt / 2 ^ j := by rw [e1]; simp
        rw [e2, hn, e3, ej2]
        exact ⟨Int.ediv_le_ediv p0 h1, Int.ediv_le_ediv p0 h2⟩
      · split at hq
        · cases hq
        · split at hq
          · rename_i c5
            rw [zle_iff] at c5
            cases hq
            have hl := x.toBitVec.isLt
            have hlt : x.toBitVec.toNat / 2 ^ j < 2 ^ (32 - j) := by
              rw [Nat.div_lt_iff_lt_mul (Nat.two_pow_pos j), ← Nat.pow_add, show 32 - j + j = 32 by omega]
              exact hl
            have hp : 2 ^ (32 - j) ≤ 2 ^ 31 := Nat.pow_le_pow_right (by omega) (by omega)
            have e2 := zbits' (x := zush x (nI j)) (by omega)
            rw [e2, hn, ej2]
            have hc : ((2 ^ (32 - j) : Nat) : Int) = (2 : Int) ^ (32 - j) := by simp
            refine ⟨by dsimp only; omega, ?_⟩
            show ((x.toBitVec.toNat / 2 ^ j : Nat) : Int) ≤ (2 : Int) ^ (32 - j) - 1
            omega
          · cases hq
    · cases hq
def zi_max (a b : zI) : zI := (if zle a.1 b.1 then b.1 else a.1, if zle a.2 b.2 then b.2 else a.2)
def zi_min (a b : zI) : zI := (if zle a.1 b.1 then a.1 else b.1, if zle a.2 b.2 then a.2 else b.2)
theorem zi_max_ok {a b : zI} {x y : Int32} (hx : zmi a x) (hy : zmi b y) : zmi (zi_max a b) (if x < y then y else x) := by
  obtain ⟨h1, h2⟩ := hx
  obtain ⟨h3, h4⟩ := hy
  unfold zmi zmem zi_max
  dsimp only
  have e : (if x < y then y else x).toInt = if x.toInt < y.toInt then y.toInt else x.toInt := by
    by_cases c : x < y
    · rw [if_pos c, if_pos (Int32.lt_iff_toInt_lt.mp c)]
    · rw [if_neg c, if_neg (fun q => c (Int32.lt_iff_toInt_lt.mpr q))]
  rw [e]
  constructor
  · split <;> rename_i c1 <;> split <;> simp only [zle_iff] at * <;> omega
  · split <;> split <;> simp only [zle_iff] at * <;> omega
theorem zi_min_ok {a b : zI} {x y : Int32} (hx : zmi a x) (hy : zmi b y) : zmi (zi_min a b) (if y < x then y else x) := by
  obtain ⟨h1, h2⟩ := hx
  obtain ⟨h3, h4⟩ := hy
  unfold zmi zmem zi_min
  dsimp only
  have e : (if y < x then y else x).toInt = if y.toInt < x.toInt then y.toInt else x.toInt := by
    by_cases c : y < x
    · rw [if_pos c, if_pos (Int32.lt_iff_toInt_lt.mp c)]
    · rw [if_neg c, if_neg (fun q => c (Int32.lt_iff_toInt_lt.mpr q))]
  rw [e]
  constructor
  · split <;> split <;> simp only [zle_iff] at * <;> omega
  · split <;> split <;> simp only [zle_iff] at * <;> omega
def zi_abs (a : zI) : zI := if zle 0 a.1 then a else if zle a.2 a.1 then zi_neg a else (-2147483648, 2147483647)
theorem zi_abs_ok {a : zI} {x : Int32} (hx : zmi a x) : zmi (zi_abs a) (if 0 ≤ x then x else 0 - x) := by
  have hs := z32 (if 0 ≤ x then x else 0 - x)
  unfold zi_abs
  split
  · rename_i c
    rw [zle_iff] at c
    have h0 : (0 : Int32) ≤ x := by rw [Int32.le_iff_toInt_le, Int32.toInt_zero]; have := hx.1; omega
    rw [if_pos h0]
    exact hx
  · rename_i c0
    rw [zle_iff] at c0
    split
    · rename_i c
      rw [zle_iff] at c
      have h0 : ¬ (0 : Int32) ≤ x := by rw [Int32.le_iff_toInt_le, Int32.toInt_zero]; have h1 := hx.1; have h2 := hx.2; omega
      rw [if_neg h0]
      exact zi_sub_ok ⟨Int.le_refl _, Int.le_refl _⟩ hx
    · exact ⟨hs.1, by dsimp only; omega⟩
/-! their walks -/
def zo_l1 (nx : Nat) (f : zI → zI) : zSem := fun _ _ go c => match c with
  | (al, .inr (.inl a) :: st, h) => zfi (f a) (go nx (al, .inr (.inl (f a)) :: st, h))
  | _ => false
def zo_l2 (nx : Nat) (f : zI → zI → zI) : zSem := fun _ _ go c => match c with
  | (al, .inr (.inl b) :: .inr (.inl a) :: st, h) => zfi (f a b) (go nx (al, .inr (.inl (f a b)) :: st, h))
  | _ => false
def zo_l2d (nx : Nat) (f : zI → zI → zI) : zSem := fun _ _ go c => match c with
  | (al, .inr (.inl b) :: .inr (.inl a) :: st, h) => if zno0 b then zfi (f a b) (go nx (al, .inr (.inl (f a b)) :: st, h)) else false
  | _ => false
def zo_lsh (nx : Nat) (f : zI → zI → zI) : zSem := fun _ _ go c => match c with
  | (al, .inl b :: .inr (.inl a) :: st, h) => zfi (f a b.1) (go nx (al, .inr (.inl (f a b.1)) :: st, h))
  | _ => false
def zo_lcmp (nx : Nat) : zSem := fun _ _ go c => match c with
  | (al, .inr (.inl b) :: .inr (.inl a) :: st, h) => zfi (zl_cmp a b) (go nx (al, .inl (zl_cmp a b, none) :: st, h))
  | _ => false
def zo_i2l (nx : Nat) : zSem := fun _ _ go c => match c with
  | (al, .inl a :: st, h) => go nx (al, .inr (.inl a.1) :: st, h)
  | _ => false
def zo_l2i (nx : Nat) : zSem := fun _ _ go c => match c with
  | (al, .inr (.inl a) :: st, h) => zfi (zl_l2i a) (go nx (al, .inl (zl_l2i a, none) :: st, h))
  | _ => false
/-- two ints by one of Math's, when the room is there -/
def zo_m2 (nx bc bs : Nat) (f : zI → zI → zI) : zSem := fun _ _ go c => match c with
  | (al, .inl b :: .inl a :: st, h, cs, sl) => if Nat.ble (zcats st) 8 && (Nat.ble cs bc && Nat.ble sl bs) then zfi (f a.1 b.1) (go nx (al, .inl (f a.1 b.1, none) :: st, h, cs, sl)) else false
  | _ => false
def zo_m1 (nx bc bs : Nat) (f : zI → zI) : zSem := fun _ _ go c => match c with
  | (al, .inl a :: st, h, cs, sl) => if Nat.ble (zcats st) 8 && (Nat.ble cs bc && Nat.ble sl bs) then zfi (f a.1) (go nx (al, .inl (f a.1, none) :: st, h, cs, sl)) else false
  | _ => false
def zo_objInit (nx : Nat) : zSem := fun _ _ go c => match c with
  | (al, .inr (.inr (.inl _)) :: st, h) => if Nat.ble (zcats st) 8 then go nx (al, st, h) else false
  | _ => false
/-- a table of targets from lo on -/
noncomputable def zo_tab (lo : Int) (ts : List Nat) (d : Nat) : zSem := fun _ _ go c => match c with
  | (al, .inl a :: st, h) => if zle (a.1.2 + 1) lo || zle (lo + Int.ofNat ts.length) a.1.1 then go d (al, st, h) else if zle a.1.2 a.1.1 then (match zget ts (a.1.1 - lo).toNat with
    | some t => go t (al, st, h)
    | none => false) else false
  | _ => false
noncomputable def zlsw (v : Int) (ts : List (Int × Nat)) (d : Nat) : Nat := List.rec (motive := fun _ => Nat) d (fun a _ ih => Bool.casesOn (motive := fun _ => Nat) (zle v a.1 && zle a.1 v) ih a.2) ts
noncomputable def zo_lsw (ts : List (Int × Nat)) (d : Nat) : zSem := fun _ _ go c => match c with
  | (al, .inl a :: st, h) => if zle a.1.2 a.1.1 then go (zlsw a.1.1 ts d) (al, st, h) else if ts.all (fun q => zle (a.1.2 + 1) q.1 || zle (q.1 + 1) a.1.1) then go d (al, st, h) else false
  | _ => false
/-- bytes and booleans -/
noncomputable def zo_bald (nx : Nat) : zSem := fun _ _ go c => match c with
  | (al, .inl i :: .inr (.inr (.inl q)) :: st, h, n) => match zrget h.2.1 q with
    | some (.inl (t', len, r)) => if (Nat.beq t' 2 || Nat.beq t' 3) && (zle 0 i.1.1 && zle (i.1.2 + 1) (Int.ofNat len)) then (match zload r i.1.1.toNat i.1.2.toNat with
      | some a => go nx (al, zstrip a :: st, h, n)
      | none => false) else false
    | _ => false
  | _ => false
noncomputable def zo_bast (nx : Nat) : zSem := fun _ _ go c => match c with
  | (al, .inl a :: .inl i :: .inr (.inr (.inl q)) :: st, h, n) => match zrget h.2.1 q with
    | some (.inl (t', len, r)) => if zle 0 i.1.1 && zle (i.1.2 + 1) (Int.ofNat len) then (match t' with
      | 2 => if zfit 2 (.inl a) then (match zstore r i.1.1.toNat i.1.2.toNat (.inl a) with
        | some r' => zfr (zrset h.2.1 q (.inl (2, len, r'))) q (go nx (al, st, (h.1, zrset h.2.1 q (.inl (2, len, r')), zdirt h.2.2 q 0), n))
        | none => false) else false
      | 3 => (match zstore r i.1.1.toNat i.1.2.toNat (.inl (zi_b a.1, none)) with
        | some r' => zfr (zrset h.2.1 q (.inl (3, len, r'))) q (go nx (al, st, (h.1, zrset h.2.1 q (.inl (3, len, r')), zdirt h.2.2 q 0), n))
        | none => false)
      | _ => false) else false
    | _ => false
  | _ => false
section ZMORE
variable {p : Program} {l : Launch} {e : Env} {R : Room} {s : State} {m : MethodId} {args : Array Value} {below : List Frame} {meth : Method} {c0 : Code} {Q : State → Prop} {D : va_G} {cl : List vw_C} {tys : List (ClassId × FieldType)} {o : zO} {z : Nat} {X : State → Heap → Prop} {Ts : List Cond} {prog : List zM} {ws0 : va_W} {nL : Nat} {own : String} {cc : ByteArray} {ret : Option FieldType} {nm : String}
theorem zk_l1 (C : zCx p R s m args meth c0 D cl tys z X Ts own cc nL nm) {pc nx : Nat} {f : zI → zI} {g : Int64 → Int64} (hf : ∀ {a : zI} {x : Int64}, zml a x → zml (f a) (g x)) (row : ∀ (H : Heap) (locs : List Loc) (cells slots : Nat) (ls : Array Slot) (rest : List Value) (x : Int64), W p l e R s m args below meth c0 H locs cells slots Q (F0 m nx ls (.long (g x) :: rest)) → W p l e R s m args below meth c0 H locs cells slots Q (F0 m pc ls (.long x :: rest))) : zOp p l e R s m args below meth c0 Q D cl tys o z X Ts prog ws0 nL cc ret (pc) (zo_l1 nx f) := by
  intro call rt go c _ _ hgo hs fv hfv ls vst H locs ws S
  unfold zo_l1 at hs
  split at hs
  · replace hs := zfi_ok hs
    obtain ⟨v, t, rfl, h1, h2⟩ := zr2_cons S.2.1
    obtain ⟨x, rfl, hx⟩ := zlong h1
    exact row _ _ _ _ _ _ _ (hgo _ _ hs fv hfv ls _ H locs ws (zSat_st S ⟨⟨_, rfl, hf hx⟩, h2⟩))
  · cases hs
theorem zk_l2 (C : zCx p R s m args meth c0 D cl tys z X Ts own cc nL nm) {pc nx : Nat} {f : zI → zI → zI} {g : Int64 → Int64 → Int64} (hf : ∀ {a b : zI} {x y : Int64}, zml a x → zml b y → zml (f a b) (g x y)) (row : ∀ (H : Heap) (locs : List Loc) (cells slots : Nat) (ls : Array Slot) (rest : List Value) (x y : Int64), W p l e R s m args below meth c0 H locs cells slots Q (F0 m nx ls (.long (g x y) :: rest)) → W p l e R s m args below meth c0 H locs cells slots Q (F0 m pc ls (.long y :: .long x :: rest))) : zOp p l e R s m args below meth c0 Q D cl tys o z X Ts prog ws0 nL cc ret (pc) (zo_l2 nx f) := by
  intro call rt go c _ _ hgo hs fv hfv ls vst H locs ws S
  unfold zo_l2 at hs
  split at hs
  · replace hs := zfi_ok hs
    obtain ⟨v, t, rfl, h1, h2⟩ := zr2_cons S.2.1
    obtain ⟨v2, t2, rfl, h3, h4⟩ := zr2_cons h2
    obtain ⟨y, rfl, hy⟩ := zlong h1
    obtain ⟨x, rfl, hx⟩ := zlong h3
    exact row _ _ _ _ _ _ _ _ (hgo _ _ hs fv hfv ls _ H locs ws (zSat_st S ⟨⟨_, rfl, hf hx hy⟩, h4⟩))
  · cases hs
theorem zno0L {b : zI} {y : Int64} (h : zno0 b = true) (hy : zml b y) : ¬ y = 0 := by
  intro e
  subst e
  obtain ⟨h1, h2⟩ := hy
  rw [Int64.toInt_zero] at h1 h2
  unfold zno0 at h
  simp only [Bool.or_eq_true, zle_iff] at h
  omega
theorem zk_l2d (C : zCx p R s m args meth c0 D cl tys z X Ts own cc nL nm) {pc nx : Nat} {f : zI → zI → zI} {g : Int64 → Int64 → Int64} (hf : ∀ {a b : zI} {x y : Int64}, zml a x → zml b y → zml (f a b) (g x y)) (row : ∀ (H : Heap) (locs : List Loc) (cells slots : Nat) (ls : Array Slot) (rest : List Value) (x y : Int64), ¬ y = 0 → W p l e R s m args below meth c0 H locs cells slots Q (F0 m nx ls (.long (g x y) :: rest)) → W p l e R s m args below meth c0 H locs cells slots Q (F0 m pc ls (.long y :: .long x :: rest))) : zOp p l e R s m args below meth c0 Q D cl tys o z X Ts prog ws0 nL cc ret (pc) (zo_l2d nx f) := by
  intro call rt go c _ _ hgo hs fv hfv ls vst H locs ws S
  unfold zo_l2d at hs
  split at hs
  · obtain ⟨v, t, rfl, h1, h2⟩ := zr2_cons S.2.1
    obtain ⟨v2, t2, rfl, h3, h4⟩ := zr2_cons h2
    obtain ⟨y, rfl, hy⟩ := zlong h1
    obtain ⟨x, rfl, hx⟩ := zlong h3
    split at hs
    · rename_i hn
      replace hs := zfi_ok hs
      exact row _ _ _ _ _ _ _ _ (zno0L hn hy) (hgo _ _ hs fv hfv ls _ H locs ws (zSat_st S ⟨⟨_, rfl, hf hx hy⟩, h4⟩))
    · cases hs
  · cases hs
theorem zk_lsh (C : zCx p R s m args meth c0 D cl tys z X Ts own cc nL nm) {pc nx : Nat} {f : zI → zI → zI} {g : Int64 → Int32 → Int64} (hf : ∀ {a b : zI} {x : Int64} {y : Int32}, zml a x → zmi b y → zml (f a b) (g x y)) (row : ∀ (H : Heap) (locs : List Loc) (cells slots : Nat) (ls : Array Slot) (rest : List Value) (x : Int64) (y : Int32), W p l e R s m args below meth c0 H locs cells slots Q (F0 m nx ls (.long (g x y) :: rest)) → W p l e R s m args below meth c0 H locs cells slots Q (F0 m pc ls (.int y :: .long x :: rest))) : zOp p l e R s m args below meth c0 Q D cl tys o z X Ts prog ws0 nL cc ret (pc) (zo_lsh nx f) := by
  intro call rt go c _ _ hgo hs fv hfv ls vst H locs ws S
  unfold zo_lsh at hs
  split at hs
  · replace hs := zfi_ok hs
    obtain ⟨v, t, rfl, h1, h2⟩ := zr2_cons S.2.1
    obtain ⟨v2, t2, rfl, h3, h4⟩ := zr2_cons h2
    obtain ⟨y, rfl, hy, -⟩ := zint h1
    obtain ⟨x, rfl, hx⟩ := zlong h3
    exact row _ _ _ _ _ _ _ _ (hgo _ _ hs fv hfv ls _ H locs ws (zSat_st S ⟨⟨_, rfl, hf hx hy⟩, h4⟩))
  · cases hs
theorem zk_lcmp (C : zCx p R s m args meth c0 D cl tys z X Ts own cc nL nm) {pc : Nat} (hd : decode cc pc = .ok (.lcmp, 1)) : zOp p l e R s m args below meth c0 Q D cl tys o z X Ts prog ws0 nL cc ret (pc) (zo_lcmp (pc + 1)) := by
  intro call rt go c _ _ hgo hs fv hfv ls vst H locs ws S
  unfold zo_lcmp at hs
  split at hs
  · replace hs := zfi_ok hs
    obtain ⟨v, t, rfl, h1, h2⟩ := zr2_cons S.2.1
    obtain ⟨v2, t2, rfl, h3, h4⟩ := zr2_cons h2
    obtain ⟨y, rfl, hy⟩ := zlong h1
    obtain ⟨x, rfl, hx⟩ := zlong h3
    exact W.lcmp C.1 C.2.1 hd (hgo _ _ hs fv hfv ls _ H locs ws (zSat_st S ⟨⟨_, rfl, zl_cmp_ok hx hy, trivial⟩, h4⟩))
  · cases hs
theorem zk_i2l (C : zCx p R s m args meth c0 D cl tys z X Ts own cc nL nm) {pc : Nat} (hd : decode cc pc = .ok (.i2l, 1)) : zOp p l e R s m args below meth c0 Q D cl tys o z X Ts prog ws0 nL cc ret (pc) (zo_i2l (pc + 1)) := by
  intro call rt go c _ _ hgo hs fv hfv ls vst H locs ws S
  unfold zo_i2l at hs
  split at hs
  · obtain ⟨v, t, rfl, h1, h2⟩ := zr2_cons S.2.1
    obtain ⟨x, rfl, hx, -⟩ := zint h1
    refine lv_i2l C.1 C.2.1 hd rfl (hgo _ _ hs fv hfv ls _ H locs ws (zSat_st S ⟨⟨_, rfl, ?_⟩, h2⟩))
    rw [Int32.toInt_toInt64]
    exact hx
  · cases hs
theorem zk_l2i (C : zCx p R s m args meth c0 D cl tys z X Ts own cc nL nm) {pc : Nat} (hd : decode cc pc = .ok (.l2i, 1)) : zOp p l e R s m args below meth c0 Q D cl tys o z X Ts prog ws0 nL cc ret (pc) (zo_l2i (pc + 1)) := by
  intro call rt go c _ _ hgo hs fv hfv ls vst H locs ws S
  unfold zo_l2i at hs
  split at hs
  · replace hs := zfi_ok hs
    obtain ⟨v, t, rfl, h1, h2⟩ := zr2_cons S.2.1
    obtain ⟨x, rfl, hx⟩ := zlong h1
    exact lv_l2i C.1 C.2.1 hd rfl (hgo _ _ hs fv hfv ls _ H locs ws (zSat_st S ⟨⟨_, rfl, zl_l2i_ok hx, trivial⟩, h2⟩))
  · cases hs
theorem zk_m2 (C : zCx p R s m args meth c0 D cl tys z X Ts own cc nL nm) {pc nx bc bs : Nat} (hbc : R.cells = bc) (hbs : R.slots = bs) {f : zI → zI → zI} {g : Int32 → Int32 → Int32} (hf : ∀ {a b : zI} {x y : Int32}, zmi a x → zmi b y → zmi (f a b) (g x y)) (row : ∀ (H : Heap) (locs : List Loc) (cells slots : Nat) (ls : Array Slot) (rest : List Value) (x y : Int32), c0.maxLocals = ls.size → 1 ≤ R.frames → (rest.map fun v => v.category).sum + 13 ≤ R.locals → cells ≤ R.cells → slots ≤ R.slots → W p l e R s m args below meth c0 H locs cells slots Q (F0 m nx ls (.int (g x y) :: rest)) → W p l e R s m args below meth c0 H locs cells slots Q (F0 m pc ls (.int y :: .int x :: rest))) : zOp p l e R s m args below meth c0 Q D cl tys o z X Ts prog ws0 nL cc ret (pc) (zo_m2 nx bc bs f) := by
  intro call rt go c _ _ hgo hs fv hfv ls vst H locs ws S
  unfold zo_m2 at hs
  split at hs
  · split at hs
    · rename_i hcnt
      simp only [Bool.and_eq_true] at hcnt
      replace hs := zfi_ok hs
      obtain ⟨v, t, rfl, h1, h2⟩ := zr2_cons S.2.1
      obtain ⟨v2, t2, rfl, h3, h4⟩ := zr2_cons h2
      obtain ⟨y, rfl, hy, -⟩ := zint h1
      obtain ⟨x, rfl, hx, -⟩ := zint h3
      have k1 := Nat.le_of_ble_eq_true hcnt.1
      have hl := C.2.2.2.2.2.2.2.2.2.2
      refine row _ _ _ _ _ _ _ _ (C.2.2.1.trans S.1.choose_spec.1.1.symm) C.2.2.2.2.2.2.2.2.2.1 (by rw [zcats_ok h4]; omega) (by rw [hbc]; exact Nat.le_of_ble_eq_true hcnt.2.1) (by rw [hbs]; exact Nat.le_of_ble_eq_true hcnt.2.2) (hgo _ _ hs fv hfv ls _ H locs ws (zSat_st S ⟨⟨_, rfl, hf hx hy, trivial⟩, h4⟩))
    · cases hs
  · cases hs
theorem zk_m1 (C : zCx p R s m args meth c0 D cl tys z X Ts own cc nL nm) {pc nx bc bs : Nat} (hbc : R.cells = bc) (hbs : R.slots = bs) {f : zI → zI} {g : Int32 → Int32} (hf : ∀ {a : zI} {x : Int32}, zmi a x → zmi (f a) (g x)) (row : ∀ (H : Heap) (locs : List Loc) (cells slots : Nat) (ls : Array Slot) (rest : List Value) (x : Int32), c0.maxLocals = ls.size → 1 ≤ R.frames → (rest.map fun v => v.category).sum + 13 ≤ R.locals → cells ≤ R.cells → slots ≤ R.slots → W p l e R s m args below meth c0 H locs cells slots Q (F0 m nx ls (.int (g x) :: rest)) → W p l e R s m args below meth c0 H locs cells slots Q (F0 m pc ls (.int x :: rest))) : zOp p l e R s m args below meth c0 Q D cl tys o z X Ts prog ws0 nL cc ret (pc) (zo_m1 nx bc bs f) := by
  intro call rt go c _ _ hgo hs fv hfv ls vst H locs ws S
  unfold zo_m1 at hs
  split at hs
  · split at hs
    · rename_i hcnt
      simp only [Bool.and_eq_true] at hcnt
      replace hs := zfi_ok hs
      obtain ⟨v, t, rfl, h1, h2⟩ := zr2_cons S.2.1
      obtain ⟨x, rfl, hx, -⟩ := zint h1
      have k1 := Nat.le_of_ble_eq_true hcnt.1
      have hl := C.2.2.2.2.2.2.2.2.2.2
      refine row _ _ _ _ _ _ _ (C.2.2.1.trans S.1.choose_spec.1.1.symm) C.2.2.2.2.2.2.2.2.2.1 (by rw [zcats_ok h2]; omega) (by rw [hbc]; exact Nat.le_of_ble_eq_true hcnt.2.1) (by rw [hbs]; exact Nat.le_of_ble_eq_true hcnt.2.2) (hgo _ _ hs fv hfv ls _ H locs ws (zSat_st S ⟨⟨_, rfl, hf hx, trivial⟩, h2⟩))
    · cases hs
  · cases hs
theorem zk_objInit (C : zCx p R s m args meth c0 D cl tys z X Ts own cc nL nm) {pc idx : Nat} (hd : decode cc pc = .ok (.invokespecial idx, 3)) (hl : Cond.methodLink own idx Lib.objectInit ∈ Ts) (hi : Cond.instanceMethod Lib.objectInit ∈ Ts) (hc : Cond.code Lib.objectInit ⟨#[0xb1]⟩ 1 none ∈ Ts) : zOp p l e R s m args below meth c0 Q D cl tys o z X Ts prog ws0 nL cc ret (pc) (zo_objInit (pc + 3)) := by
  intro call rt go c _ _ hgo hs fv hfv ls vst H locs ws S
  unfold zo_objInit at hs
  split at hs
  · split at hs
    · rename_i hcnt
      have k1 := Nat.le_of_ble_eq_true hcnt
      obtain ⟨v, t, rfl, ⟨a, ha, rfl⟩, h2⟩ := zr2_cons S.2.1
      have hlo := C.2.2.2.2.2.2.2.2.2.2
      refine W.objInit C.1 C.2.1 C.2.2.2.1 (C.2.2.2.2.1 _ hl) (C.2.2.2.2.1 _ hi) (C.2.2.2.2.1 _ hc) (g := F0 m pc ls (.ref a :: t)) rfl (S.1.choose_spec.1.1.trans C.2.2.1.symm) rfl hd C.2.2.2.2.2.2.2.2.2.1 ?_ (hgo _ _ hs fv hfv ls _ H locs ws (zSat_st S h2))
      show 2 * 0 + _ + 12 ≤ _
      rw [zcats_ok h2]
      omega
    · cases hs
  · cases hs
theorem zk_tab (C : zCx p R s m args meth c0 D cl tys z X Ts own cc nL nm) {pc len d : Nat} {dflt lo hi : Int} {offs : Array Int} {ts : List Nat} (hd : decode cc pc = .ok (.tableswitch dflt lo hi offs, len)) (hdf : (pc : Int) + dflt = (d : Int)) (hhi : hi + 1 = lo + (ts.length : Int)) (hts : ∀ (k t : Nat), ts[k]? = some t → ∃ off : Int, offs[k]? = some off ∧ (pc : Int) + off = (t : Int)) : zOp p l e R s m args below meth c0 Q D cl tys o z X Ts prog ws0 nL cc ret (pc) (zo_tab lo ts d) := by
  intro call rt go c _ _ hgo hs fv hfv ls vst H locs ws S
  unfold zo_tab at hs
  split at hs
  · obtain ⟨v, t, rfl, h1, h2⟩ := zr2_cons S.2.1
    obtain ⟨x, rfl, ⟨hx1, hx2⟩, -⟩ := zint h1
    split at hs
    · rename_i hc
      simp only [Bool.or_eq_true, zle_iff] at hc
      have hc2 : (Int.ofNat ts.length) = (ts.length : Int) := rfl
      rw [hc2] at hc
      exact lv_tableOut C.1 C.2.1 hd (by omega) hdf (hgo _ _ hs fv hfv ls _ H locs ws (zSat_st S h2))
    · rename_i hc
      simp only [Bool.or_eq_true, zle_iff] at hc
      have hc2 : (Int.ofNat ts.length) = (ts.length : Int) := rfl
      rw [hc2] at hc
      split at hs
      · rename_i he
        rw [zle_iff] at he
        split at hs
        · rename_i tg hg
          rw [zget_eq] at hg
          obtain ⟨off, o1, o2⟩ := hts _ _ hg
          have ex : x.toInt = _ := Int.le_antisymm (Int.le_trans hx2 he) hx1
          refine lv_tableIn C.1 C.2.1 hd (by omega) (by omega) (off := off) (by rw [ex]; exact o1) o2 (hgo _ _ hs fv hfv ls _ H locs ws (zSat_st S h2))
        · cases hs
      · cases hs
  · cases hs
theorem zk_bald (C : zCx p R s m args meth c0 D cl tys z X Ts own cc nL nm) {pc : Nat} (hd : decode cc pc = .ok (.baload, 1)) : zOp p l e R s m args below meth c0 Q D cl tys o z X Ts prog ws0 nL cc ret (pc) (zo_bald (pc + 1)) := by
  intro call rt go c _ _ hgo hs fv hfv ls vst H locs ws S
  unfold zo_bald at hs
  split at hs
  · split at hs
    · rename_i t' len r hc
      split at hs
      · rename_i he
        simp only [Bool.and_eq_true, Bool.or_eq_true] at he
        obtain ⟨he, x2, x3⟩ := he
        split at hs
        · rename_i hr
          obtain ⟨w, t1, rfl, hw1, h2a⟩ := zr2_cons S.2.1
          obtain ⟨v, t, rfl, ⟨a, ha, rfl⟩, h2⟩ := zr2_cons h2a
          obtain ⟨x, rfl, hx⟩ := zint hw1
          obtain ⟨b1, b2, b4, b3⟩ := zixI hx.1 x2 x3
          rcases he with he | he
          · have he := Nat.eq_of_beq_eq_true he
            subst he
            obtain ⟨e0, hw, cA, hA, f, rfl, hf⟩ := zwr_at S.2.2.1 ha hc
            obtain ⟨a1, g1, g2⟩ := hf _ b3
            obtain ⟨t0, ht0⟩ := List.getElem?_of_mem hA
            refine va_zald C.1 C.2.1 C.2.2.2.2.2.1 S.2.2.2.1 _ t0 hw ht0 b1 hd ?_
            exact hgo _ _ hs fv hfv ls _ H locs ws (zSat_st S ⟨zg_strip (zload_ok hr b2 b4 g1 g2), h2⟩)
          · have he := Nat.eq_of_beq_eq_true he
            subst he
            obtain ⟨e0, hw, cA, hA, f, rfl, hf⟩ := zwr_at S.2.2.1 ha hc
            obtain ⟨a1, g1, g2⟩ := hf _ b3
            obtain ⟨t0, ht0⟩ := List.getElem?_of_mem hA
            refine va_bald C.1 C.2.1 C.2.2.2.2.2.1 S.2.2.2.1 _ t0 hw ht0 b1 hd ?_
            exact hgo _ _ hs fv hfv ls _ H locs ws (zSat_st S ⟨zg_strip (zload_ok hr b2 b4 g1 g2), h2⟩)
        · cases hs
      · cases hs
    · cases hs
  · cases hs
theorem zk_bast (C : zCx p R s m args meth c0 D cl tys z X Ts own cc nL nm) {pc : Nat} (hd : decode cc pc = .ok (.bastore, 1)) : zOp p l e R s m args below meth c0 Q D cl tys o z X Ts prog ws0 nL cc ret (pc) (zo_bast (pc + 1)) := by
  intro call rt go c _ _ hgo hs fv hfv ls vst H locs ws S
  unfold zo_bast at hs
  split at hs
  · split at hs
    · rename_i t' len r hc
      split at hs
      · rename_i he
        simp only [Bool.and_eq_true] at he
        obtain ⟨x2, x3⟩ := he
        obtain ⟨u, t0, rfl, hu1, h2a⟩ := zr2_cons S.2.1
        obtain ⟨w, t1, rfl, hw1, h2b⟩ := zr2_cons h2a
        obtain ⟨v, t, rfl, ⟨a, ha, rfl⟩, h2⟩ := zr2_cons h2b
        obtain ⟨x, rfl, hx⟩ := zint hw1
        obtain ⟨b1, b2, b4, b3⟩ := zixI hx.1 x2 x3
        obtain ⟨y, rfl, hy⟩ := zint hu1
        split at hs
        · split at hs
          · rename_i hfit
            split at hs
            rotate_left
            · cases hs
            rename_i r' hst
            replace hs := zfr_ok hs
            have hnf := zfit_ok (ty := .boolean) rfl hfit hu1
            have hny : vp_nar .boolean y = y := by unfold vp_nar; rw [hnf.1]
            obtain ⟨e0, hw, cA, hA, f, rfl, hf⟩ := zwr_at S.2.2.1 ha hc
            obtain ⟨t0, ht0⟩ := List.getElem?_of_mem hA
            refine va_zast C.1 C.2.1 C.2.2.2.2.2.1 S.2.2.2.1 S.2.2.2.2.1 S.2.2.2.2.2.1 _ t0 hw ht0 b1 hd (fun H1 locs1 hP hD hS => ?_)
            rw [hny] at hP hD
            refine hgo _ _ hs fv hfv ls _ H1 locs1 _ (zSat_h S h2 (by rw [zad_set hw]; exact fun _ _ q => q) (zwr_set S.2.2.1 hw hc ⟨cA, hA, _, rfl, ?_⟩) hP hD hS (zcg_arr S.2.2.2.2.2.2 hw))
            have key := zstore_ok (g := fun i => Value.int (f i)) hst b2 b4 b3 hf (v := .int y) (zgH_of hu1)
            intro i hi
            obtain ⟨b, q1, q2⟩ := key i hi
            refine ⟨b, q1, ?_⟩
            rw [upd]
            by_cases e9 : i = x.toNatClampNeg
            · rw [if_pos e9] at q2 ⊢
              exact q2
            · rw [if_neg e9] at q2 ⊢
              exact q2
          · cases hs
        · split at hs
          rotate_left
          · cases hs
          rename_i r' hst
          replace hs := zfr_ok hs
          obtain ⟨e0, hw, cA, hA, f, rfl, hf⟩ := zwr_at S.2.2.1 ha hc
          obtain ⟨t0, ht0⟩ := List.getElem?_of_mem hA
          refine va_bast C.1 C.2.1 C.2.2.2.2.2.1 S.2.2.2.1 S.2.2.2.2.1 S.2.2.2.2.2.1 _ t0 hw ht0 b1 hd (fun H1 locs1 hP hD hS => ?_)
          refine hgo _ _ hs fv hfv ls _ H1 locs1 _ (zSat_h S h2 (by rw [zad_set hw]; exact fun _ _ q => q) (zwr_set S.2.2.1 hw hc ⟨cA, hA, _, rfl, ?_⟩) hP hD hS (zcg_arr S.2.2.2.2.2.2 hw))
          rw [vp_nar_byte]
          have key := zstore_ok (g := fun i => Value.int (f i)) hst b2 b4 b3 hf (v := .int _) ⟨_, rfl, zi_b_ok hy.1⟩
          intro i hi
          obtain ⟨b, q1, q2⟩ := key i hi
          refine ⟨b, q1, ?_⟩
          rw [upd]
          by_cases e9 : i = x.toNatClampNeg
          · rw [if_pos e9] at q2 ⊢
            exact q2
          · rw [if_neg e9] at q2 ⊢
            exact q2
        · cases hs
      · cases hs
    · cases hs
  · cases hs
end ZMORE
