/-! CLOSER BOUNDS -/
def zb2 (n : Nat) : Nat := Nat.log2 n + 1
def zbt (a b : zI) : Nat := if Nat.ble (zb2 a.2.toNat) (zb2 b.2.toNat) then zb2 b.2.toNat else zb2 a.2.toNat
theorem zbt_ok (a b : zI) : a.2.toNat < 2 ^ zbt a b ∧ b.2.toNat < 2 ^ zbt a b := by
  have h1 : a.2.toNat < 2 ^ zb2 a.2.toNat := Nat.lt_log2_self
  have h2 : b.2.toNat < 2 ^ zb2 b.2.toNat := Nat.lt_log2_self
  unfold zbt
  split
  · rename_i c
    have c := Nat.le_of_ble_eq_true c
    exact ⟨Nat.lt_of_lt_of_le h1 (Nat.pow_le_pow_right (by omega) c), h2⟩
  · rename_i c
    rw [Nat.ble_eq] at c
    exact ⟨h1, Nat.lt_of_lt_of_le h2 (Nat.pow_le_pow_right (by omega) (by omega))⟩
/-- by the longer of the two -/
def zj_bit (f : zI → zI → zI) (up : zI → zI → Int) (a b : zI) : zI := if zle 0 a.1 && (zle 0 b.1 && (Nat.ble (zbt a b) 31 && (zle (a.1 + 1) a.2 || zle (b.1 + 1) b.2))) then (up a b, Int.ofNat (2 ^ zbt a b - 1)) else f a b
def zup_or (a b : zI) : Int := zmx a.1 b.1
def zup_xor (_ _ : zI) : Int := 0
def zj_or (a b : zI) : zI := zj_bit zi_or zup_or a b
def zj_xor (a b : zI) : zI := zj_bit zi_xor zup_xor a b
theorem zj_bit_ok {f : zI → zI → zI} {up : zI → zI → Int} {g : Nat → Nat → Nat} {k : Int32 → Int32 → Int32} (hf : ∀ {a b : zI} {x y : Int32}, zmi a x → zmi b y → zmi (f a b) (k x y)) (hg : ∀ x y : Int32, (k x y).toBitVec.toNat = g x.toBitVec.toNat y.toBitVec.toNat) (hl : ∀ (m n k : Nat), m < 2 ^ k → n < 2 ^ k → g m n < 2 ^ k) (hu : ∀ (a b : zI) (m n : Nat), a.1 ≤ (m : Int) → b.1 ≤ (n : Int) → up a b ≤ (g m n : Int)) {a b : zI} {x y : Int32} (hx : zmi a x) (hy : zmi b y) : zmi (zj_bit f up a b) (k x y) := by
  unfold zj_bit
  split
  · rename_i c
    simp only [Bool.and_eq_true, zle_iff, Nat.ble_eq] at c
    obtain ⟨c1, c2, c3, -⟩ := c
    obtain ⟨h1, h2⟩ := hx
    obtain ⟨h3, h4⟩ := hy
    obtain ⟨e1, l1⟩ := zbits (x := x) (by omega)
    obtain ⟨e2, l2⟩ := zbits (x := y) (by omega)
    obtain ⟨t1, t2⟩ := zbt_ok a b
    have hp : 2 ^ zbt a b ≤ 2 ^ 31 := Nat.pow_le_pow_right (by omega) c3
    have hh := hl x.toBitVec.toNat y.toBitVec.toNat (zbt a b) (by omega) (by omega)
    have hv := hu a b x.toBitVec.toNat y.toBitVec.toNat (by omega) (by omega)
    rw [← hg] at hh hv
    have e := zbits' (x := k x y) (by omega)
    unfold zmi
    rw [e]
    refine ⟨hv, ?_⟩
    show ((k x y).toBitVec.toNat : Int) ≤ ((2 ^ zbt a b - 1 : Nat) : Int)
    omega
  · exact hf hx hy
theorem zmx_le {a b c : Int} (h1 : a ≤ c) (h2 : b ≤ c) : zmx a b ≤ c := by
  unfold zmx
  split <;> assumption
theorem zj_or_ok {a b : zI} {x y : Int32} (hx : zmi a x) (hy : zmi b y) : zmi (zj_or a b) (x ||| y) := zj_bit_ok (k := fun x y => x ||| y) (g := Nat.lor) zi_or_ok (fun x y => by rw [Int32.toBitVec_or, BitVec.toNat_or]; rfl) (fun m n k h1 h2 => Nat.or_lt_two_pow h1 h2) (fun a b m n h1 h2 => by
  have g1 : m ≤ m ||| n := Nat.left_le_or
  have g2 : n ≤ m ||| n := Nat.right_le_or
  have g3 : Nat.lor m n = m ||| n := rfl
  rw [g3]
  exact zmx_le (by omega) (by omega)) hx hy
theorem zj_xor_ok {a b : zI} {x y : Int32} (hx : zmi a x) (hy : zmi b y) : zmi (zj_xor a b) (x ^^^ y) := zj_bit_ok (k := fun x y => x ^^^ y) (g := Nat.xor) zi_xor_ok (fun x y => by rw [Int32.toBitVec_xor, BitVec.toNat_xor]; rfl) (fun m n k h1 h2 => Nat.xor_lt_two_pow h1 h2) (fun a b m n h1 h2 => by show (0 : Int) ≤ _; omega) hx hy
/-- 'and' with 2^k - 1, within one stretch of 2^k -/
def zj_and (a b : zI) : zI := if zle b.2 b.1 && (zle 1 b.1 && (zle b.1 (2 ^ Nat.log2 (b.1.toNat + 1) - 1) && (zle (2 ^ Nat.log2 (b.1.toNat + 1) - 1) b.1 && zle (a.2 / (b.1 + 1)) (a.1 / (b.1 + 1))))) then (a.1 % (b.1 + 1), a.2 % (b.1 + 1)) else zi_and a b
theorem zmask {x y : Int32} {k : Nat} (hk : k ≤ 31) (hy : y.toInt = 2 ^ k - 1) : (x &&& y).toInt = x.toInt % 2 ^ k := by
  have p0 : 0 < 2 ^ k := Nat.two_pow_pos k
  have pc : ((2 ^ k : Nat) : Int) = (2 : Int) ^ k := by simp
  obtain ⟨e, hl⟩ := zbits (x := y) (by omega)
  have hn : (x &&& y).toBitVec.toNat = x.toBitVec.toNat &&& y.toBitVec.toNat := by rw [Int32.toBitVec_and, BitVec.toNat_and]
  have ey : y.toBitVec.toNat = 2 ^ k - 1 := by omega
  rw [ey, Nat.and_two_pow_sub_one_eq_mod] at hn
  have hp : 2 ^ k ≤ 2 ^ 31 := Nat.pow_le_pow_right (by omega) hk
  have hm := Nat.mod_lt x.toBitVec.toNat p0
  rw [zbits' (x := x &&& y) (by omega), hn, ← pc]
  have ex : x.toInt = x.toBitVec.toInt := rfl
  have hd : (2 ^ k : Nat) ∣ 2 ^ 32 := Nat.pow_dvd_pow 2 (by omega)
  obtain ⟨d, hd⟩ := hd
  rw [BitVec.toInt_eq_toNat_cond] at ex
  split at ex
  · rw [ex]; rfl
  · rw [ex, hd]
    have : ((2 ^ k * d : Nat) : Int) = ((2 ^ k : Nat) : Int) * (d : Int) := by push_cast; rfl
    rw [this, Int.sub_mul_emod_self_left]
    rfl
theorem zmods {a b x n : Int} (hn : 0 < n) (h : b / n ≤ a / n) (h1 : a ≤ x) (h2 : x ≤ b) : a % n ≤ x % n ∧ x % n ≤ b % n := by
  have q1 := Int.ediv_le_ediv hn h1
  have q2 := Int.ediv_le_ediv hn h2
  have e1 : x / n = a / n := by omega
  have e2 : b / n = a / n := by omega
  have d1 := Int.emod_def a n
  have d2 := Int.emod_def x n
  have d3 := Int.emod_def b n
  rw [e1] at d2
  rw [e2] at d3
  omega
theorem zj_and_ok {a b : zI} {x y : Int32} (hx : zmi a x) (hy : zmi b y) : zmi (zj_and a b) (x &&& y) := by
  unfold zj_and
  split
  · rename_i c
    simp only [Bool.and_eq_true, zle_iff] at c
    obtain ⟨c1, c2, c3, c4, c5⟩ := c
    obtain ⟨h1, h2⟩ := hx
    obtain ⟨h3, h4⟩ := hy
    have hs := z32 y
    have ey : y.toInt = b.1 := by omega
    have ek : b.1 = 2 ^ Nat.log2 (b.1.toNat + 1) - 1 := by omega
    have hk : Nat.log2 (b.1.toNat + 1) ≤ 31 := by
      have : Nat.log2 (b.1.toNat + 1) < 32 := (Nat.log2_lt (by omega)).mpr (by omega)
      omega
    unfold zmi
    rw [zmask hk (by rw [ey]; exact ek), ← show b.1 + 1 = (2 : Int) ^ Nat.log2 (b.1.toNat + 1) by omega]
    exact zmods (by omega) c5 h1 h2
  · exact zi_and_ok hx hy
/-! longs -/
theorem zbitL {x : Int64} (h : 0 ≤ x.toInt) : x.toInt = (x.toBitVec.toNat : Int) ∧ x.toBitVec.toNat < 9223372036854775808 := by
  have e : x.toInt = x.toBitVec.toInt := rfl
  rw [BitVec.toInt_eq_toNat_cond] at e
  have hl := x.toBitVec.isLt
  split at e <;> omega
theorem zbitL' {x : Int64} (h : x.toBitVec.toNat < 9223372036854775808) : x.toInt = (x.toBitVec.toNat : Int) := by
  have e : x.toInt = x.toBitVec.toInt := rfl
  rw [BitVec.toInt_eq_toNat_cond] at e
  split at e <;> omega
theorem zandL {x y : Int64} (h : 0 ≤ y.toInt) : 0 ≤ (x &&& y).toInt ∧ (x &&& y).toInt ≤ y.toInt := by
  obtain ⟨e, hl⟩ := zbitL h
  have hn : (x &&& y).toBitVec.toNat = x.toBitVec.toNat &&& y.toBitVec.toNat := by rw [Int64.toBitVec_and, BitVec.toNat_and]
  have hle : x.toBitVec.toNat &&& y.toBitVec.toNat ≤ y.toBitVec.toNat := Nat.and_le_right
  have := zbitL' (x := x &&& y) (by omega)
  omega
def zj_andL (a b : zI) : zI := if zle a.2 a.1 && zle b.2 b.1 then zl_and a b else if zle 0 b.1 then (0, b.2) else if zle 0 a.1 then (0, a.2) else zl_and a b
theorem zj_andL_ok {a b : zI} {x y : Int64} (hx : zml a x) (hy : zml b y) : zml (zj_andL a b) (x &&& y) := by
  unfold zj_andL
  split
  · exact zl_and_ok hx hy
  · split
    · rename_i c
      rw [zle_iff] at c
      have h := zandL (x := x) (y := y) (by have := hy.1; omega)
      exact ⟨h.1, Int.le_trans h.2 hy.2⟩
    · split
      · rename_i c
        rw [zle_iff] at c
        have h := zandL (x := y) (y := x) (by have := hx.1; omega)
        rw [Int64.and_comm] at h
        exact ⟨h.1, Int.le_trans h.2 hx.2⟩
      · exact zl_and_ok hx hy
theorem zshL_amt : ∀ j, j < 64 → (((nI j).toInt64 &&& 63).toBitVec.smod 64).toNat = j := by decide +kernel
theorem zshrL (a s : Int64) (k : Nat) (hs : (s.toBitVec.smod 64).toNat = k) : (a >>> s).toInt = a.toInt >>> k := by
  show (a.toBitVec.sshiftRight (s.toBitVec.smod 64).toNat).toInt = _
  rw [hs, BitVec.toInt_sshiftRight]
  rfl
theorem zshlL (a s : Int64) (k : Nat) (hs : (s.toBitVec.smod 64).toNat = k) : (a <<< s).toBitVec.toNat = a.toBitVec.toNat * 2 ^ k % 2 ^ 64 := by
  show (a.toBitVec <<< (s.toBitVec.smod 64).toNat).toNat = _
  rw [hs, BitVec.toNat_shiftLeft, Nat.shiftLeft_eq]
theorem zpw (u v : Nat) (h : u ≤ v) : (2 : Int) ^ u ≤ 2 ^ v := by
  have := Nat.pow_le_pow_right (n := 2) (by omega) h
  exact_mod_cast this
def zj_shrL (a b : zI) : zI := if zle 0 a.1 && (zle 0 b.1 && zle b.2 63) then (a.1 / 2 ^ b.2.toNat, a.2 / 2 ^ b.1.toNat) else zl_shr a b
theorem zj_shrL_ok {a b : zI} {x : Int64} {y : Int32} (hx : zml a x) (hy : zmi b y) : zml (zj_shrL a b) (x >>> (y.toInt64 &&& 63)) := by
  unfold zj_shrL
  split
  · rename_i c
    simp only [Bool.and_eq_true, zle_iff] at c
    obtain ⟨c1, c2, c3⟩ := c
    obtain ⟨h1, h2⟩ := hx
    obtain ⟨h3, h4⟩ := hy
    obtain ⟨j, rfl, ej⟩ := zsh_nI (y := y) (by omega)
    have e : (x >>> ((nI j).toInt64 &&& 63)).toInt = x.toInt / 2 ^ j := by
      rw [zshrL x _ j (zshL_amt j (by omega)), Int.shiftRight_eq_div_pow]
      simp
    unfold zml
    rw [e]
    have p0 : (0 : Int) < 2 ^ j := Int.pow_pos (by omega)
    have p1 : (0 : Int) < 2 ^ b.1.toNat := Int.pow_pos (by omega)
    have p2 : (0 : Int) < 2 ^ b.2.toNat := Int.pow_pos (by omega)
    have q1 := zpw b.1.toNat j (by omega)
    have q2 := zpw j b.2.toNat (by omega)
    have x0 : 0 ≤ x.toInt := by omega
    constructor
    · refine Int.le_trans (Int.ediv_le_ediv p2 h1) ?_
      refine (Int.le_ediv_iff_mul_le p0).mpr ?_
      refine Int.le_trans (Int.mul_le_mul_of_nonneg_left q2 (Int.ediv_nonneg x0 (by omega))) ?_
      exact Int.ediv_mul_le _ (by omega)
    · refine Int.le_trans ?_ (Int.ediv_le_ediv p1 h2)
      refine (Int.le_ediv_iff_mul_le p1).mpr ?_
      refine Int.le_trans (Int.mul_le_mul_of_nonneg_left q1 (Int.ediv_nonneg x0 (by omega))) ?_
      exact Int.ediv_mul_le _ (by omega)
  · exact zl_shr_ok hx hy
def zj_shlL (a b : zI) : zI := if zle 0 a.1 && (zle 0 b.1 && (zle b.2 63 && zle (a.2 * 2 ^ b.2.toNat) (9223372036854775808 - 1))) then (a.1 * 2 ^ b.1.toNat, a.2 * 2 ^ b.2.toNat) else zl_shl a b
theorem zj_shlL_ok {a b : zI} {x : Int64} {y : Int32} (hx : zml a x) (hy : zmi b y) : zml (zj_shlL a b) (x <<< (y.toInt64 &&& 63)) := by
  unfold zj_shlL
  split
  · rename_i c
    simp only [Bool.and_eq_true, zle_iff] at c
    obtain ⟨c1, c2, c3, c4⟩ := c
    obtain ⟨h1, h2⟩ := hx
    obtain ⟨h3, h4⟩ := hy
    obtain ⟨j, rfl, ej⟩ := zsh_nI (y := y) (by omega)
    obtain ⟨e1, l1⟩ := zbitL (x := x) (by omega)
    have hn := zshlL x ((nI j).toInt64 &&& 63) j (zshL_amt j (by omega))
    have p0 : (0 : Int) < 2 ^ b.1.toNat := Int.pow_pos (by omega)
    have q1 := zpw b.1.toNat j (by omega)
    have q2 := zpw j b.2.toNat (by omega)
    have u1 : a.1 * 2 ^ b.1.toNat ≤ x.toInt * 2 ^ j := Int.mul_le_mul h1 q1 (by omega) (by omega)
    have u2 : x.toInt * 2 ^ j ≤ a.2 * 2 ^ b.2.toNat := Int.mul_le_mul h2 q2 (by omega) (by omega)
    have un : ((x.toBitVec.toNat * 2 ^ j : Nat) : Int) = x.toInt * 2 ^ j := by rw [e1]; simp
    rw [Nat.mod_eq_of_lt (by omega)] at hn
    unfold zml
    rw [zbitL' (by omega), hn, un]
    exact ⟨u1, u2⟩
  · exact zl_shl_ok hx hy
def zj_cmp (a b : zI) : zI := (if zle (b.2 + 1) a.1 then 1 else if zle b.2 a.1 then 0 else -1, if zle (a.2 + 1) b.1 then -1 else if zle a.2 b.1 then 0 else 1)
theorem zj_cmp_ok {a b : zI} {x y : Int64} (hx : zml a x) (hy : zml b y) : zmi (zj_cmp a b) (lg_cmp x y) := by
  obtain ⟨h1, h2⟩ := hx
  obtain ⟨h3, h4⟩ := hy
  have k1 : (1 : Int32).toInt = 1 := by decide
  have k2 : (-1 : Int32).toInt = -1 := by decide
  have k0 : (0 : Int32).toInt = 0 := by decide
  have hv : ((lg_cmp x y).toInt = 1 ∧ y.toInt < x.toInt) ∨ ((lg_cmp x y).toInt = 0 ∧ x.toInt = y.toInt) ∨ ((lg_cmp x y).toInt = -1 ∧ x.toInt < y.toInt) := by
    unfold lg_cmp
    by_cases c1 : x > y
    · rw [if_pos c1]; exact Or.inl ⟨k1, Int64.lt_iff_toInt_lt.mp c1⟩
    · rw [if_neg c1]
      by_cases c2 : x = y
      · rw [if_pos c2]; exact Or.inr (Or.inl ⟨k0, by rw [c2]⟩)
      · rw [if_neg c2]
        have n1 : ¬ y.toInt < x.toInt := fun h => c1 (Int64.lt_iff_toInt_lt.mpr h)
        have n2 : ¬ x.toInt = y.toInt := fun h => c2 (Int64.toInt_inj.mp h)
        exact Or.inr (Or.inr ⟨k2, by omega⟩)
  unfold zmi zmem zj_cmp
  dsimp only
  constructor
  · repeat' split
    all_goals (simp only [zle_iff] at *; omega)
  · repeat' split
    all_goals (simp only [zle_iff] at *; omega)
def zj_abs (a : zI) : zI := if zle 0 a.1 then a else if zle a.2 a.1 then zi_abs a else if zle (-2147483647) a.1 then (0, zmx (-a.1) a.2) else zi_abs a
theorem zmx_both (a b : Int) : a ≤ zmx a b ∧ b ≤ zmx a b := by
  unfold zmx
  split
  · rename_i c; rw [zle_iff] at c; exact ⟨c, Int.le_refl _⟩
  · rename_i c; rw [zle_iff] at c; exact ⟨Int.le_refl _, by omega⟩
theorem zj_abs_ok {a : zI} {x : Int32} (hx : zmi a x) : zmi (zj_abs a) (if 0 ≤ x then x else 0 - x) := by
  have h0 := zi_abs_ok hx
  unfold zj_abs
  split
  · rename_i c
    unfold zi_abs at h0
    rw [if_pos c] at h0
    exact h0
  · split
    · exact h0
    · split
      · rename_i c
        rw [zle_iff] at c
        obtain ⟨h1, h2⟩ := hx
        have m := zmx_both (-a.1) a.2
        by_cases hc : (0 : Int32) ≤ x
        · rw [if_pos hc]
          rw [Int32.le_iff_toInt_le, Int32.toInt_zero] at hc
          exact ⟨hc, by dsimp only; omega⟩
        · rw [if_neg hc]
          rw [Int32.le_iff_toInt_le, Int32.toInt_zero] at hc
          have hs := z32 x
          have e : (0 - x).toInt = -x.toInt := by
            rw [Int32.toInt_sub, Int32.toInt_zero]
            rw [zbm (M := 2 ^ 32) (B := 2147483648) (by decide) (by omega) (by omega)]
            omega
          unfold zmi
          rw [e]
          exact ⟨by dsimp only; omega, by dsimp only; omega⟩
      · exact h0
theorem ztg_le {f : Nat → Int32} {n : Nat} {d : Int} {x : Int32} (h : ¬ n < 1000) (hx : x.toInt ≤ (f (n - 1000)).toInt + d) : ztg f (some (n, d)) x := by
  unfold ztg
  dsimp only
  rw [if_neg h]
  exact hx
/-- what 'and' gives is at most the one that has a name -/
def zt_and (a b : zN) : zT := match zle 0 a.1.1, a.2 with
  | true, some q => if zle 0 (zj_and a.1 b.1).1 && (Nat.ble (q.1 + 1) 1000 && (zle q.2 0 && zle 0 q.2)) then some (q.1 + 1000, 0) else none
  | _, _ => none
theorem zt_and_ok {f : Nat → Int32} {a b : zN} {x y : Int32} (hx : zmi a.1 x) (tx : ztg f a.2 x) : ztg f (zt_and a b) (x &&& y) := by
  unfold zt_and
  split
  · rename_i q h0 hq
    split
    · rename_i hc
      simp only [Bool.and_eq_true, zle_iff] at hc h0
      have hq1 := Nat.le_of_ble_eq_true hc.2.1
      rw [hq] at tx
      have tx := (ztg_eq (by omega)).mp tx
      rw [show q.2 = 0 by omega, show Int32.ofInt 0 = 0 by decide, Int32.add_zero] at tx
      have h := zand_r (x := y) (y := x) (by have := hx.1; omega)
      rw [Int32.and_comm] at h
      generalize hm : q.1 + 1000 = m
      refine ztg_le (by omega) ?_
      rw [show m - 1000 = q.1 by omega, ← tx, Int.add_zero]
      exact h.2
    · trivial
  · trivial
/-! their rows -/
def zo_and (nx : Nat) : zSem := fun _ _ go c => match c with
  | (al, .inl b :: .inl a :: st, h) => zfi (zj_and a.1 b.1) (go nx (al, .inl (zj_and a.1 b.1, zt_and a b) :: st, h))
  | _ => false
def zo_lcm (nx : Nat) : zSem := fun _ _ go c => match c with
  | (al, .inr (.inl b) :: .inr (.inl a) :: st, h) => zfi (zj_cmp a b) (go nx (al, .inl (zj_cmp a b, none) :: st, h))
  | _ => false
section ZBOUND
variable {p : Program} {l : Launch} {e : Env} {R : Room} {s : State} {m : MethodId} {args : Array Value} {below : List Frame} {meth : Method} {c0 : Code} {Q : State → Prop} {D : va_G} {cl : List vw_C} {tys : List (ClassId × FieldType)} {o : zO} {z : Nat} {X : State → Heap → Prop} {Ts : List Cond} {prog : List zM} {ws0 : va_W} {nL : Nat} {own : String} {cc : ByteArray} {ret : Option FieldType} {nm : String}
theorem zqb_and (C : zCx p R s m args meth c0 D cl tys z X Ts own cc nL nm) {pc : Nat} (hd : decode cc pc = .ok (.iand, 1)) : zOp p l e R s m args below meth c0 Q D cl tys o z X Ts prog ws0 nL cc ret (pc) (zo_and (pc + 1)) := by
  intro call rt go c _ _ hgo hs fv hfv ls vst H locs ws S
  unfold zo_and at hs
  split at hs
  · replace hs := zfi_ok hs
    obtain ⟨v, t, rfl, h1, h2⟩ := zr2_cons S.2.1
    obtain ⟨v2, t2, rfl, h3, h4⟩ := zr2_cons h2
    obtain ⟨y, rfl, hy, -⟩ := zint h1
    obtain ⟨x, rfl, hx, tx⟩ := zint h3
    exact lv_iand C.1 C.2.1 hd (hgo _ _ hs fv hfv ls _ H locs ws (zSat_st S ⟨⟨_, rfl, zj_and_ok hx hy, zt_and_ok hx tx⟩, h4⟩))
  · cases hs
theorem zqb_or (C : zCx p R s m args meth c0 D cl tys z X Ts own cc nL nm) {pc : Nat} (hd : decode cc pc = .ok (.ior, 1)) : zOp p l e R s m args below meth c0 Q D cl tys o z X Ts prog ws0 nL cc ret (pc) (zo_i2 (pc + 1) zj_or) := zk_i2 C zj_or_ok (fun _ _ _ _ _ _ _ _ k => lv_ior C.1 C.2.1 hd k)
theorem zqb_xor (C : zCx p R s m args meth c0 D cl tys z X Ts own cc nL nm) {pc : Nat} (hd : decode cc pc = .ok (.ixor, 1)) : zOp p l e R s m args below meth c0 Q D cl tys o z X Ts prog ws0 nL cc ret (pc) (zo_i2 (pc + 1) zj_xor) := zk_i2 C zj_xor_ok (fun _ _ _ _ _ _ _ _ k => lv_ixor C.1 C.2.1 hd k)
theorem zqb_land (C : zCx p R s m args meth c0 D cl tys z X Ts own cc nL nm) {pc : Nat} (hd : decode cc pc = .ok (.land, 1)) : zOp p l e R s m args below meth c0 Q D cl tys o z X Ts prog ws0 nL cc ret (pc) (zo_l2 (pc + 1) zj_andL) := zk_l2 C zj_andL_ok (fun _ _ _ _ _ _ _ _ k => lv_land C.1 C.2.1 hd k)
theorem zqb_lshl (C : zCx p R s m args meth c0 D cl tys z X Ts own cc nL nm) {pc : Nat} (hd : decode cc pc = .ok (.lshl, 1)) : zOp p l e R s m args below meth c0 Q D cl tys o z X Ts prog ws0 nL cc ret (pc) (zo_lsh (pc + 1) zj_shlL) := zk_lsh C (g := fun x y => x <<< (y.toInt64 &&& 63)) zj_shlL_ok (fun _ _ _ _ _ _ _ _ k => lv_lshl C.1 C.2.1 hd rfl k)
theorem zqb_lshr (C : zCx p R s m args meth c0 D cl tys z X Ts own cc nL nm) {pc : Nat} (hd : decode cc pc = .ok (.lshr, 1)) : zOp p l e R s m args below meth c0 Q D cl tys o z X Ts prog ws0 nL cc ret (pc) (zo_lsh (pc + 1) zj_shrL) := zk_lsh C (g := fun x y => x >>> (y.toInt64 &&& 63)) zj_shrL_ok (fun _ _ _ _ _ _ _ _ k => lv_lshr C.1 C.2.1 hd rfl k)
theorem zqb_lcmp (C : zCx p R s m args meth c0 D cl tys z X Ts own cc nL nm) {pc : Nat} (hd : decode cc pc = .ok (.lcmp, 1)) : zOp p l e R s m args below meth c0 Q D cl tys o z X Ts prog ws0 nL cc ret (pc) (zo_lcm (pc + 1)) := by
  intro call rt go c _ _ hgo hs fv hfv ls vst H locs ws S
  unfold zo_lcm at hs
  split at hs
  · replace hs := zfi_ok hs
    obtain ⟨v, t, rfl, h1, h2⟩ := zr2_cons S.2.1
    obtain ⟨v2, t2, rfl, h3, h4⟩ := zr2_cons h2
    obtain ⟨y, rfl, hy⟩ := zlong h1
    obtain ⟨x, rfl, hx⟩ := zlong h3
    exact W.lcmp C.1 C.2.1 hd (hgo _ _ hs fv hfv ls _ H locs ws (zSat_st S ⟨⟨_, rfl, zj_cmp_ok hx hy, trivial⟩, h4⟩))
  · cases hs
theorem zqb_abs (C : zCx p R s m args meth c0 D cl tys z X Ts own cc nL nm) {pc idx bc bs : Nat} (hbc : R.cells = bc) (hbs : R.slots = bs) (hd : decode cc pc = .ok (.invokestatic idx, 3)) (hl : Cond.methodLink own idx Lib.Math.abs.name ∈ Ts) (hs : Cond.static Lib.Math.abs.name ∈ Ts) (hi : Cond.initialized "java/lang/Math" ∈ Ts) (hc : Cond.code Lib.Math.abs.name Lib.Math.abs.code 1 (some .int) ∈ Ts) : zOp p l e R s m args below meth c0 Q D cl tys o z X Ts prog ws0 nL cc ret (pc) (zo_m1 (pc + 3) bc bs zj_abs) := zk_m1 C hbc hbs (g := fun x => if 0 ≤ x then x else 0 - x) zj_abs_ok (fun _ _ _ _ _ _ _ a1 a2 a3 a4 a5 kk => va_mabs C.1 C.2.1 a1 C.2.2.2.1 (C.2.2.2.2.1 _ hl) (C.2.2.2.2.1 _ hs) (C.2.2.2.2.1 _ hi) (C.2.2.2.2.1 _ hc) a2 a3 a4 a5 hd kk)
end ZBOUND
