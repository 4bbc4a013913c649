/-! solve() with values: what it finds is there -/
theorem zor_nat {x y : Int32} {a b : Nat} (hx : x.toInt = (a : Int)) (hy : y.toInt = (b : Int)) (ha : a < 65536) (hb : b < 65536) : (x ||| y).toInt = ((a ||| b : Nat) : Int) := by
  have h1 := zbits (x := x) (by omega)
  have h2 := zbits (x := y) (by omega)
  have e1 : x.toBitVec.toNat = a := by omega
  have e2 : y.toBitVec.toNat = b := by omega
  have e3 : (x ||| y).toBitVec.toNat = a ||| b := by
    show (x.toBitVec ||| y.toBitVec).toNat = _
    rw [BitVec.toNat_or, e1, e2]
  have h3 : a ||| b < 2 ^ 16 := Nat.or_lt_two_pow (by omega) (by omega)
  rw [zbits' (by rw [e3]; omega), e3]
theorem zan_nat {x y : Int32} {a b : Nat} (hx : x.toInt = (a : Int)) (hy : y.toInt = (b : Int)) : (x &&& y).toInt = ((a &&& b : Nat) : Int) := by
  have h := zand_nat (x := x) (y := y) (by omega) (by omega)
  rw [h, hx, hy]
  rfl
theorem znat8 {x : Int32} {r : Nat} (hx : x.toInt = (r : Int)) (h : r < 2147483648) : x = Int32.ofNat r := by
  apply Int32.toInt_inj.mp
  rw [hx]
  exact (nI_toInt (by omega)).symm
theorem zsh8 {x : Int32} {r : Nat} (hx : x.toInt = (r : Int)) (hr : r < 9) : (x <<< ((Int8.ofInt 8).toInt32 &&& 31)).toInt = ((256 * r : Nat) : Int) := by
  rw [znat8 hx (by omega)]
  have h9 := (by decide : ∀ r : Nat, r < 9 → (Int32.ofNat r <<< ((Int8.ofInt 8).toInt32 &&& 31)).toInt = ((256 * r : Nat) : Int))
  exact h9 r hr
theorem zor256 {r t : Nat} (ht : t < 256) : 256 * r ||| t = 256 * r + t := by
  have h := Nat.shiftLeft_add_eq_or_of_lt (b := t) (i := 8) (by omega) r
  rw [Nat.shiftLeft_eq] at h
  rw [Nat.mul_comm 256 r]
  exact h.symm
theorem zidx {x y : Int32} {r t : Nat} (hx : x.toInt = (r : Int)) (hr : r < 9) (hy : y.toInt = (t : Int)) (ht : t < 256) : (x <<< ((Int8.ofInt 8).toInt32 &&& 31) ||| y).toInt = ((256 * r + t : Nat) : Int) := by
  rw [zor_nat (zsh8 hx hr) hy (by omega) (by omega), zor256 ht]
set_option maxRecDepth 100000 in
theorem zrst_t : ∀ n : Nat, n < 9 → ∀ w : Nat, w < 256 → (znt (Int32.ofNat n) &&& (Int32.ofNat w ^^^ Int32.ofInt (-1))).toInt = (((2 ^ n - 1) &&& (255 - w) : Nat) : Int) := by decide +kernel
theorem zrst {N xo : Int32} {n w : Nat} (hN : N.toInt = (n : Int)) (hn : n < 9) (ho : xo.toInt = (w : Int)) (hw : w < 256) : (znt N &&& (xo ^^^ Int32.ofInt (-1))).toInt = (((2 ^ n - 1) &&& (255 - w) : Nat) : Int) := by
  rw [znat8 hN (by omega), znat8 ho (by omega)]
  exact zrst_t n hn w hw
set_option maxRecDepth 100000 in
theorem zneg_t : ∀ w : Nat, w < 256 → (255 - w) &&& w = 0 := by decide +kernel
theorem zdec1 {x y : Int32} {a b : Nat} (hx : x.toInt = (a : Int)) (ha : 0 < a) (hy : y.toInt = (b : Int)) : (x - Int32.ofInt 1 &&& y).toInt = (((a - 1) &&& b : Nat) : Int) := by
  have h1 := z32 x
  refine zan_nat ?_ hy
  rw [Int32.toInt_sub, show (Int32.ofInt 1).toInt = 1 by decide, zbm (B := 2147483648) (by decide) (by omega) (by omega)]
  omega
/-- what is left for the riders from r on: k of them -/
def zAs (may : Nat → Nat) (cap : Nat → Int) : Nat → Nat → Nat → Prop
  | 0, _, t => t = 0
  | k + 1, r, t => ∃ own t', own &&& may r = own ∧ (zpc own : Int) ≤ cap r ∧ t' &&& own = 0 ∧ t = t' ||| own ∧ zAs may cap k (r + 1) t'
/-- the rows of 'least' from r on tell what is there -/
def zGd (may : Nat → Nat) (cap : Nat → Int) (M nt r : Nat) (F : Nat → Int32) : Prop := ∀ q t, r ≤ q → q ≤ M → t ≤ nt → (F (256 * q + t)).toInt < 1000000000 → zAs may cap (M - q) q t
theorem zGd_up {may : Nat → Nat} {cap : Nat → Int} {M nt r j : Nat} {F : Nat → Int32} {v : Int32} (h : zGd may cap M nt r F) (hv : ∀ q t, r ≤ q → q ≤ M → t ≤ nt → 256 * q + t = j → v.toInt < 1000000000 → zAs may cap (M - q) q t) : zGd may cap M nt r (upd F j v) := by
  intro q t h1 h2 h3 h4
  unfold upd at h4
  split at h4
  · rename_i e
    exact hv q t h1 h2 h3 e h4
  · exact h q t h1 h2 h3 h4
def zmL : Nat := zdirt 0 116 0
theorem zmL_b (k j : Nat) (h : k ≠ 116) (hj : j < 64) : zbit zmL k j = false := by
  unfold zmL zbit zdirt
  show (0 ||| 1 <<< (64 * 116 + 0)).testBit (64 * k + j) = false
  rw [Nat.zero_or, Nat.one_shiftLeft, Nat.testBit_two_pow]
  exact decide_eq_false (by omega)
/-- solve()'s state -/
def zSv (D : va_G) (tys : List (ClassId × FieldType)) (o : zO) (z : Nat) (s : State) (aM : Nat) (N M : Int32) (aMost aWidth aRode aMay aMust aLeast aLine : Nat) (Fa Fm : Nat → Int32) (ws0 : va_W) (F : Nat → Int32) (ws : va_W) (H : Heap) (locs : List Loc) : Prop := zwr vwCl tys o (zuW 0) ws ∧ va_P D vwCl ws H ∧ va_D (zA z) ws ∧ va_S (zA z) s.heap H locs ∧ zOb ws aM N M aMost aWidth aRode aMay aMust aLeast aLine ∧ zAr tys ws 111 aMay 8 Fa ∧ zAr tys ws 96 aMost 8 Fm ∧ zAr tys ws 116 aLeast 2304 F ∧ zcg zmL ws0 ws ∧ ∀ i, i < 2304 → (F i).toInt ≤ 1000000000
section ZSOL
variable {p : Program} {l : Launch} {e : Env} {s : State} {m : MethodId} {args : Array Value} {below : List Frame} {meth : Method} {c0 : Code} {Q : State → Prop} {D : va_G} {tys : List (ClassId × FieldType)} {o : zO} {z : Nat}
variable {aM : Nat} {N M : Int32} {aMost aWidth aRode aMay aMust aLeast aLine : Nat} {Fa Fm : Nat → Int32} {ws0 : va_W}
theorem zSv_call {F : Nat → Int32} {ws ws' : va_W} {H H' : Heap} {locs locs' : List Loc} (h : zSv D tys o z s aM N M aMost aWidth aRode aMay aMust aLeast aLine Fa Fm ws0 F ws H locs) (hc : zcg 0 ws ws') (hw : zwr vwCl tys o (zuW 0) ws') (hP : va_P D vwCl ws' H') (hD : va_D (zA z) ws') (hS : va_S (zA z) s.heap H' locs') : zSv D tys o z s aM N M aMost aWidth aRode aMay aMust aLeast aLine Fa Fm ws0 F ws' H' locs' := by
  obtain ⟨h1, h2, h3, h4, h5, h6, h7, h8, h9, h10⟩ := h
  refine ⟨hw, hP, hD, hS, zOb_cg hc (fun j _ => zb0 94 j) h5, zAr_cg hc h6 (zb0 111 0), zAr_cg hc h7 (zb0 96 0), zAr_cg hc h8 (zb0 116 0), ?_, h10⟩
  have := zcg_tr h9 hc
  rw [show Nat.lor zmL 0 = zmL from Nat.or_zero _] at this
  exact this
/-- a row of 'least' is written -/
theorem zSv_store {R : Room} {pc : Nat} {cc : ByteArray} {nL : Nat} {nm : String} (C : zCx p R s m args meth c0 D vwCl tys z (zXX o z) zTs RX8 cc nL nm) (hd : decode cc pc = .ok (.iastore, 1)) {cells slots : Nat} {ls : Array Slot} {rest : List Value} {F : Nat → Int32} {ws : va_W} {H : Heap} {locs : List Loc} (h : zSv D tys o z s aM N M aMost aWidth aRode aMay aMust aLeast aLine Fa Fm ws0 F ws H locs) {x v : Int32} {j : Nat} (hx : x.toInt = (j : Int)) (hj : j < 2304) (hv : v.toInt ≤ 1000000000) (kk : ∀ (H1 : Heap) (locs1 : List Loc) (ws1 : va_W), zSv D tys o z s aM N M aMost aWidth aRode aMay aMust aLeast aLine Fa Fm ws0 (upd F j v) ws1 H1 locs1 → W p l e R s m args below meth c0 H1 locs1 cells slots Q (F0 m (pc + 1) ls rest)) : W p l e R s m args below meth c0 H locs cells slots Q (F0 m pc ls (.int v :: .int x :: .ref aLeast :: rest)) := by
  obtain ⟨h1, h2, h3, h4, h5, h6, h7, h8, h9, h10⟩ := h
  refine zv_iast C hd h1 zu_least ⟨_, rfl, v, rfl, (z32 v).1, hv⟩ h2 h3 h4 h8 hx hj (fun H1 locs1 ws1 k1 k2 k3 k4 k5 k6 => kk H1 locs1 ws1 ⟨k1, k2, k3, k4, zOb_cg k6 (fun j hj => zmL_b 94 j (by decide) (by omega)) h5, zAr_cg k6 h6 (zmL_b 111 0 (by decide) (by decide)), zAr_cg k6 h7 (zmL_b 96 0 (by decide) (by decide)), k5, ?_, ?_⟩)
  · have := zcg_tr h9 k6
    rw [show Nat.lor zmL (zdirt 0 116 0) = zmL from Nat.or_self _] at this
    exact this
  · intro i hi
    unfold upd
    split
    · exact hv
    · exact h10 i hi
end ZSOL
