/-! rests(): whether a pair is at rest, reckoned -/
def zrB (x y v w : Nat) : Bool := match Nat.ble y x with
  | true => Nat.ble y v && Nat.ble w x
  | false => Nat.ble v y && Nat.ble x w
def zrI (b : Bool) : Int := match b with
  | true => .ofNat 1
  | false => .ofNat 0
/-- what one has, what the other has -/
def zf1 (x y v : Int32) : Int32 := if x < y then Int32.ofInt 0 else v - y
def zf2 (x y w : Int32) : Int32 := if y ≤ x then Int32.ofInt 0 else w - x
def zcN (X Y V U B : Nat) : Prop := (if (X : Int) < (Y : Int) then (0 : Int) else (V : Int) - (Y : Int)) < (if (B : Int) < (Y : Int) then (0 : Int) else (V : Int) - (Y : Int)) ∨ (if (Y : Int) ≤ (X : Int) then (0 : Int) else (U : Int) - (X : Int)) < (if (B : Int) ≤ (X : Int) then (0 : Int) else (U : Int) - (X : Int))
theorem zr_no {X Y V U B : Nat} (h : zcN X Y V U B) : zrB X Y V U = false := by
  cases h9 : zrB X Y V U with
  | false => rfl
  | true =>
    exfalso
    unfold zrB at h9
    unfold zcN at h
    split at h9
    · rename_i k
      have k := Nat.le_of_ble_eq_true k
      rw [Bool.and_eq_true] at h9
      have k1 := Nat.le_of_ble_eq_true h9.1
      have k2 := Nat.le_of_ble_eq_true h9.2
      rcases h with h | h
      · split at h <;> split at h <;> omega
      · split at h <;> split at h <;> omega
    · rename_i k
      have k : ¬ Y ≤ X := fun q => by rw [Nat.ble_eq_true_of_le q] at k; cases k
      rw [Bool.and_eq_true] at h9
      have k1 := Nat.le_of_ble_eq_true h9.1
      have k2 := Nat.le_of_ble_eq_true h9.2
      rcases h with h | h
      · split at h <;> split at h <;> omega
      · split at h <;> split at h <;> omega
theorem zr_yes {X Y V U : Nat} (hX : X ≤ 9) (hY : Y ≤ 9) (hU : U ≤ 9) (h0 : ¬ zcN X Y V U 0) (h9 : ¬ zcN X Y V U 9) : zrB X Y V U = true := by
  unfold zcN at h0 h9
  unfold zrB
  split
  · rename_i k
    have k := Nat.le_of_ble_eq_true k
    rw [Bool.and_eq_true]
    have a1 : Y ≤ V := by
      refine Classical.byContradiction fun q => h0 (Or.inl ?_)
      rw [if_neg (by omega), if_pos (by omega)]
      omega
    have a2 : U ≤ X := by
      refine Classical.byContradiction fun q => h9 (Or.inr ?_)
      rw [if_pos (by omega), if_neg (by omega)]
      omega
    exact ⟨Nat.ble_eq_true_of_le a1, Nat.ble_eq_true_of_le a2⟩
  · rename_i k
    have k : ¬ Y ≤ X := fun q => by rw [Nat.ble_eq_true_of_le q] at k; cases k
    rw [Bool.and_eq_true]
    have a1 : V ≤ Y := by
      refine Classical.byContradiction fun q => h9 (Or.inl ?_)
      rw [if_pos (by omega), if_neg (by omega)]
      omega
    have a2 : X ≤ U := by
      refine Classical.byContradiction fun q => h0 (Or.inr ?_)
      rw [if_neg (by omega), if_pos (by omega)]
      omega
    exact ⟨Nat.ble_eq_true_of_le a1, Nat.ble_eq_true_of_le a2⟩
theorem zf1_t {x y v : Int32} {X Y V : Nat} (hx : x.toInt = (X : Int)) (hy : y.toInt = (Y : Int)) (hv : v.toInt = (V : Int)) (hX : X ≤ 10) (hY : Y ≤ 10) (hV : V ≤ 10) : (zf1 x y v).toInt = if (X : Int) < (Y : Int) then (0 : Int) else (V : Int) - (Y : Int) := by
  unfold zf1
  by_cases k : x < y
  · rw [if_pos k]
    rw [Int32.lt_iff_toInt_lt] at k
    rw [if_pos (by omega)]
    decide
  · rw [if_neg k]
    rw [Int32.lt_iff_toInt_lt] at k
    rw [if_neg (by omega), Int32.toInt_sub, zbm (B := 2147483648) (by decide) (by omega) (by omega)]
    omega
theorem zf2_t {x y w : Int32} {X Y U : Nat} (hx : x.toInt = (X : Int)) (hy : y.toInt = (Y : Int)) (hw : w.toInt = (U : Int)) (hX : X ≤ 10) (hY : Y ≤ 10) (hU : U ≤ 10) : (zf2 x y w).toInt = if (Y : Int) ≤ (X : Int) then (0 : Int) else (U : Int) - (X : Int) := by
  unfold zf2
  by_cases k : y ≤ x
  · rw [if_pos k]
    rw [Int32.le_iff_toInt_le] at k
    rw [if_pos (by omega)]
    decide
  · rw [if_neg k]
    rw [Int32.le_iff_toInt_le] at k
    rw [if_neg (by omega), Int32.toInt_sub, zbm (B := 2147483648) (by decide) (by omega) (by omega)]
    omega
theorem zrinc {xb : Int32} {b : Nat} (h : xb.toInt = (b : Int)) (hb : b ≤ 10) : (xb + Int32.ofInt 1).toInt = ((b + 1 : Nat) : Int) := by
  rw [Int32.toInt_add, show (Int32.ofInt 1).toInt = 1 by decide, zbm (B := 2147483648) (by decide) (by omega) (by omega)]
  omega
theorem zcg00 {a b c : va_W} (h1 : zcg 0 a b) (h2 : zcg 0 b c) : zcg 0 a c := by
  have h := zcg_tr h1 h2
  rw [show Nat.lor 0 0 = 0 from rfl] at h
  exact h
/-- of the bid b: none has more by it -/
theorem zcN_n {x y v w xb : Int32} {X Y V U B : Nat} (hx : x.toInt = (X : Int)) (hy : y.toInt = (Y : Int)) (hv : v.toInt = (V : Int)) (hw : w.toInt = (U : Int)) (hb : xb.toInt = (B : Int)) (h9 : X ≤ 9 ∧ Y ≤ 9 ∧ V ≤ 9 ∧ U ≤ 9) (hB : B ≤ 9) : (zf1 x y v < zf1 xb y v ∨ ¬ zf2 x xb w ≤ zf2 x y w) ↔ zcN X Y V U B := by
  unfold zcN
  rw [Int32.lt_iff_toInt_lt, Int32.le_iff_toInt_le, zf1_t hx hy hv (by omega) (by omega) (by omega), zf1_t hb hy hv (by omega) (by omega) (by omega), zf2_t hx hb hw (by omega) (by omega) (by omega), zf2_t hx hy hw (by omega) (by omega) (by omega), Int.not_le]
section ZREST
variable {l : Launch} {D : va_G} {tys : List (ClassId × FieldType)} {o : zO} {z : Nat}
theorem zr_cl {h : zH} {ws : va_W} {x y v w : Int32} {X Y V U : Nat} (hx : x.toInt = (X : Int)) (hy : y.toInt = (Y : Int)) (hv : v.toInt = (V : Int)) (hu : w.toInt = (U : Int)) (h9 : X ≤ 9 ∧ Y ≤ 9 ∧ V ≤ 9 ∧ U ≤ 9) : zMetV l D vwCl tys o z (zXX o z) zTs mX7_isAtRest 5 1900 h (h.1, h.2.1, 0) ws [.int x, .int y, .int v, .int w] (fun r _ => r = .int (Int32.ofInt (zrI (zrB X Y V U)))) := by
  refine zMetV_of (mr := mX7_isAtRest) (by decide) (by decide) (by decide) (show 4 ≤ 7 by decide) rfl rfl (ty := .boolean) rfl ?_
  intro p e s m below meth c0 Q ls C hw hP hD hret hlv
  replace C : zCx p { frames := 5, cells := 0, slots := 0, locals := 1900 } s m ([.int x, .int y, .int v, .int w] : List Value).toArray meth c0 D vwCl tys z (zXX o z) zTs RX7 cX7_isAtRest 7 "isAtRest" := C
  have hlv : lv_has ls 7 [(0, .int x), (1, .int y), (2, .int v), (3, .int w)] := hlv
  have hw2 : zwr vwCl tys o (h.1, h.2.1, 0) ws := ⟨hw.1, hw.2⟩
  have r0 : ∀ ls : Array Slot, zrB X Y V U = false → W p l e { frames := 5, cells := 0, slots := 0, locals := 1900 } s m ([.int x, .int y, .int v, .int w] : List Value).toArray below meth c0 s.heap [] 0 0 Q (F0 m 74 ls []) := by
    intro ls hb
    refine lv_iconst C.1 C.2.1 dX7_isAtRest_74 rfl ?_
    exact hret 75 ls _ _ [] ws rfl dX7_isAtRest_75 zcg_rf hw2 hP hD va_S.rf (by rw [hb]; rfl)
  have r1 : ∀ ls : Array Slot, zrB X Y V U = true → W p l e { frames := 5, cells := 0, slots := 0, locals := 1900 } s m ([.int x, .int y, .int v, .int w] : List Value).toArray below meth c0 s.heap [] 0 0 Q (F0 m 82 ls []) := by
    intro ls hb
    refine lv_iconst C.1 C.2.1 dX7_isAtRest_82 rfl ?_
    exact hret 83 ls _ _ [] ws rfl dX7_isAtRest_83 zcg_rf hw2 hP hD va_S.rf (by rw [hb]; rfl)
  have lp : ∀ (d b : Nat) (xb : Int32) (ls : Array Slot), b + d = 10 → xb.toInt = (b : Int) → (1 ≤ b → ¬ zcN X Y V U 0) → (b = 10 → ¬ zcN X Y V U 9) → lv_has ls 7 [(6, .int xb), (5, .int (zf2 x y w)), (4, .int (zf1 x y v)), (0, .int x), (1, .int y), (2, .int v), (3, .int w)] → W p l e { frames := 5, cells := 0, slots := 0, locals := 1900 } s m ([.int x, .int y, .int v, .int w] : List Value).toArray below meth c0 s.heap [] 0 0 Q (F0 m 31 ls []) := by
    intro d
    induction d with
    | zero =>
      intro b xb ls hd hb q0 q9 hlv
      refine lv_iload C.1 C.2.1 dX7_isAtRest_31 (lv_at hlv 0 rfl) ?_
      refine lv_bipush C.1 C.2.1 dX7_isAtRest_33 (v := Int32.ofInt 10) (by decide) ?_
      refine lv_icmp_ge C.1 C.2.1 dX7_isAtRest_35 (tgt := 82) (by decide) (fun h35 => ?_) (fun h35 => ?_)
      · exact r1 ls (zr_yes h9.1 h9.2.1 h9.2.2.2 (q0 (by omega)) (q9 (by omega)))
      · exfalso
        rw [Int32.le_iff_toInt_le, hb, show (Int32.ofInt 10).toInt = 10 by decide] at h35
        omega
    | succ d ih =>
      intro b xb ls hd hb q0 q9 hlv
      have hB : b ≤ 9 := by omega
      have key := zcN_n hx hy hv hu hb h9 hB
      have j76 : ¬ zcN X Y V U b → W p l e { frames := 5, cells := 0, slots := 0, locals := 1900 } s m ([.int x, .int y, .int v, .int w] : List Value).toArray below meth c0 s.heap [] 0 0 Q (F0 m 76 ls []) := by
        intro hn
        refine lv_iinc C.1 C.2.1 dX7_isAtRest_76 hlv (k := 0) rfl rfl (by decide) (lv' := [(6, _), (5, .int (zf2 x y w)), (4, .int (zf1 x y v)), (0, .int x), (1, .int y), (2, .int v), (3, .int w)]) rfl (fun ls hlv => ?_)
        refine lv_goto C.1 C.2.1 dX7_isAtRest_79 (tgt := 31) (by decide) ?_
        refine ih (b + 1) _ ls (by omega) (zrinc hb (by omega)) (fun _ => ?_) (fun hq => ?_) hlv
        · by_cases hz : b = 0
          · subst hz; exact hn
          · exact q0 (by omega)
        · have hz : b = 9 := by omega
          subst hz
          exact hn
      have j69 : ¬ zf1 x y v < zf1 xb y v → W p l e { frames := 5, cells := 0, slots := 0, locals := 1900 } s m ([.int x, .int y, .int v, .int w] : List Value).toArray below meth c0 s.heap [] 0 0 Q (F0 m 69 ls [.int (zf2 x xb w)]) := by
        intro hn
        refine lv_iload C.1 C.2.1 dX7_isAtRest_69 (lv_at hlv 1 rfl) ?_
        refine lv_icmp_le C.1 C.2.1 dX7_isAtRest_71 (tgt := 76) (by decide) (fun h71 => ?_) (fun h71 => ?_)
        · exact j76 (fun q => by rcases key.mpr q with q | q; exact hn q; exact q h71)
        · exact r0 ls (zr_no (key.mp (Or.inr h71)))
      have j51 : W p l e { frames := 5, cells := 0, slots := 0, locals := 1900 } s m ([.int x, .int y, .int v, .int w] : List Value).toArray below meth c0 s.heap [] 0 0 Q (F0 m 51 ls [.int (zf1 xb y v)]) := by
        refine lv_iload C.1 C.2.1 dX7_isAtRest_51 (lv_at hlv 2 rfl) ?_
        refine lv_icmp_gt C.1 C.2.1 dX7_isAtRest_53 (tgt := 74) (by decide) (fun h53 => ?_) (fun h53 => ?_)
        · exact r0 ls (zr_no (key.mp (Or.inl h53)))
        · have j69 := j69 h53
          unfold zf2 at j69
          refine lv_iload C.1 C.2.1 dX7_isAtRest_56 (lv_at hlv 0 rfl) ?_
          refine lv_iload_n C.1 C.2.1 dX7_isAtRest_58 rfl (lv_at hlv 3 rfl) ?_
          refine lv_icmp_le C.1 C.2.1 dX7_isAtRest_59 (tgt := 68) (by decide) (fun h59 => ?_) (fun h59 => ?_)
          · rw [if_pos h59] at j69
            refine lv_iconst C.1 C.2.1 dX7_isAtRest_68 rfl ?_
            exact j69
          · rw [if_neg h59] at j69
            refine lv_iload_n C.1 C.2.1 dX7_isAtRest_62 rfl (lv_at hlv 6 rfl) ?_
            refine lv_iload_n C.1 C.2.1 dX7_isAtRest_63 rfl (lv_at hlv 3 rfl) ?_
            refine lv_isub C.1 C.2.1 dX7_isAtRest_64 ?_
            refine lv_goto C.1 C.2.1 dX7_isAtRest_65 (tgt := 69) (by decide) ?_
            exact j69
      refine lv_iload C.1 C.2.1 dX7_isAtRest_31 (lv_at hlv 0 rfl) ?_
      refine lv_bipush C.1 C.2.1 dX7_isAtRest_33 (v := Int32.ofInt 10) (by decide) ?_
      refine lv_icmp_ge C.1 C.2.1 dX7_isAtRest_35 (tgt := 82) (by decide) (fun h35 => ?_) (fun h35 => ?_)
      · exfalso
        rw [Int32.le_iff_toInt_le, hb, show (Int32.ofInt 10).toInt = 10 by decide] at h35
        omega
      · unfold zf1 at j51
        refine lv_iload C.1 C.2.1 dX7_isAtRest_38 (lv_at hlv 0 rfl) ?_
        refine lv_iload_n C.1 C.2.1 dX7_isAtRest_40 rfl (lv_at hlv 4 rfl) ?_
        refine lv_icmp_lt C.1 C.2.1 dX7_isAtRest_41 (tgt := 50) (by decide) (fun h41 => ?_) (fun h41 => ?_)
        · rw [if_pos h41] at j51
          refine lv_iconst C.1 C.2.1 dX7_isAtRest_50 rfl ?_
          exact j51
        · rw [if_neg h41] at j51
          refine lv_iload_n C.1 C.2.1 dX7_isAtRest_44 rfl (lv_at hlv 5 rfl) ?_
          refine lv_iload_n C.1 C.2.1 dX7_isAtRest_45 rfl (lv_at hlv 4 rfl) ?_
          refine lv_isub C.1 C.2.1 dX7_isAtRest_46 ?_
          refine lv_goto C.1 C.2.1 dX7_isAtRest_47 (tgt := 51) (by decide) ?_
          exact j51
  have j28 : ∀ ls : Array Slot, lv_has ls 7 [(5, .int (zf2 x y w)), (4, .int (zf1 x y v)), (0, .int x), (1, .int y), (2, .int v), (3, .int w)] → W p l e { frames := 5, cells := 0, slots := 0, locals := 1900 } s m ([.int x, .int y, .int v, .int w] : List Value).toArray below meth c0 s.heap [] 0 0 Q (F0 m 28 ls []) := by
    intro ls hlv
    refine lv_iconst C.1 C.2.1 dX7_isAtRest_28 rfl ?_
    refine lv_istore C.1 C.2.1 dX7_isAtRest_29 hlv (lv' := [(6, _), (5, .int (zf2 x y w)), (4, .int (zf1 x y v)), (0, .int x), (1, .int y), (2, .int v), (3, .int w)]) (by decide) rfl (fun ls hlv => ?_)
    exact lp 10 0 _ ls rfl (by decide) (fun q => by omega) (fun q => by omega) hlv
  have j26 : ∀ ls : Array Slot, lv_has ls 7 [(4, .int (zf1 x y v)), (0, .int x), (1, .int y), (2, .int v), (3, .int w)] → W p l e { frames := 5, cells := 0, slots := 0, locals := 1900 } s m ([.int x, .int y, .int v, .int w] : List Value).toArray below meth c0 s.heap [] 0 0 Q (F0 m 26 ls [.int (zf2 x y w)]) := by
    intro ls hlv
    refine lv_istore C.1 C.2.1 dX7_isAtRest_26 hlv (lv' := [(5, _), (4, .int (zf1 x y v)), (0, .int x), (1, .int y), (2, .int v), (3, .int w)]) (by decide) rfl (fun ls hlv => ?_)
    exact j28 ls hlv
  have j14 : ∀ ls : Array Slot, lv_has ls 7 [(4, .int (zf1 x y v)), (0, .int x), (1, .int y), (2, .int v), (3, .int w)] → W p l e { frames := 5, cells := 0, slots := 0, locals := 1900 } s m ([.int x, .int y, .int v, .int w] : List Value).toArray below meth c0 s.heap [] 0 0 Q (F0 m 14 ls []) := by
    intro ls hlv
    have j26 := j26 ls hlv
    unfold zf2 at j26
    refine lv_iload_n C.1 C.2.1 dX7_isAtRest_14 rfl (lv_at hlv 2 rfl) ?_
    refine lv_iload_n C.1 C.2.1 dX7_isAtRest_15 rfl (lv_at hlv 1 rfl) ?_
    refine lv_icmp_le C.1 C.2.1 dX7_isAtRest_16 (tgt := 25) (by decide) (fun h16 => ?_) (fun h16 => ?_)
    · rw [if_pos h16] at j26
      refine lv_iconst C.1 C.2.1 dX7_isAtRest_25 rfl ?_
      exact j26
    · rw [if_neg h16] at j26
      refine lv_iload_n C.1 C.2.1 dX7_isAtRest_19 rfl (lv_at hlv 4 rfl) ?_
      refine lv_iload_n C.1 C.2.1 dX7_isAtRest_20 rfl (lv_at hlv 1 rfl) ?_
      refine lv_isub C.1 C.2.1 dX7_isAtRest_21 ?_
      refine lv_goto C.1 C.2.1 dX7_isAtRest_22 (tgt := 26) (by decide) ?_
      exact j26
  have j12 : W p l e { frames := 5, cells := 0, slots := 0, locals := 1900 } s m ([.int x, .int y, .int v, .int w] : List Value).toArray below meth c0 s.heap [] 0 0 Q (F0 m 12 ls [.int (zf1 x y v)]) := by
    refine lv_istore C.1 C.2.1 dX7_isAtRest_12 hlv (lv' := [(4, _), (0, .int x), (1, .int y), (2, .int v), (3, .int w)]) (by decide) rfl (fun ls hlv => ?_)
    exact j14 ls hlv
  unfold zf1 at j12
  refine lv_iload_n C.1 C.2.1 dX7_isAtRest_0 rfl (lv_at hlv 0 rfl) ?_
  refine lv_iload_n C.1 C.2.1 dX7_isAtRest_1 rfl (lv_at hlv 1 rfl) ?_
  refine lv_icmp_lt C.1 C.2.1 dX7_isAtRest_2 (tgt := 11) (by decide) (fun h2 => ?_) (fun h2 => ?_)
  · rw [if_pos h2] at j12
    refine lv_iconst C.1 C.2.1 dX7_isAtRest_11 rfl ?_
    exact j12
  · rw [if_neg h2] at j12
    refine lv_iload_n C.1 C.2.1 dX7_isAtRest_5 rfl (lv_at hlv 2 rfl) ?_
    refine lv_iload_n C.1 C.2.1 dX7_isAtRest_6 rfl (lv_at hlv 1 rfl) ?_
    refine lv_isub C.1 C.2.1 dX7_isAtRest_7 ?_
    refine lv_goto C.1 C.2.1 dX7_isAtRest_8 (tgt := 12) (by decide) ?_
    exact j12
theorem zr_zf1 {h : zH} {ws : va_W} {x y v : Int32} : zMetV l D vwCl tys o z (zXX o z) zTs mX8_firstGets 2 300 h (h.1, h.2.1, 0) ws [.int x, .int y, .int v] (fun r _ => r = .int (zf1 x y v)) := by
  refine zMetV_of (mr := mX8_firstGets) (by decide) (by decide) (by decide) (show 3 ≤ 3 by decide) rfl rfl (ty := .int) rfl ?_
  intro p e s m below meth c0 Q ls C hw hP hD hret hlv
  replace C : zCx p { frames := 2, cells := 0, slots := 0, locals := 300 } s m ([.int x, .int y, .int v] : List Value).toArray meth c0 D vwCl tys z (zXX o z) zTs RX8 cX8_firstGets 3 "firstGets" := C
  have hlv : lv_has ls 3 [(0, .int x), (1, .int y), (2, .int v)] := hlv
  have hw2 : zwr vwCl tys o (h.1, h.2.1, 0) ws := ⟨hw.1, hw.2⟩
  have r0 : W p l e { frames := 2, cells := 0, slots := 0, locals := 300 } s m ([.int x, .int y, .int v] : List Value).toArray below meth c0 s.heap [] 0 0 Q (F0 m 12 ls [.int (zf1 x y v)]) := hret 12 ls _ _ [] ws rfl dX8_firstGets_12 zcg_rf hw2 hP hD va_S.rf rfl
  unfold zf1 at r0
  refine lv_iload_n C.1 C.2.1 dX8_firstGets_0 rfl (lv_at hlv 0 rfl) ?_
  refine lv_iload_n C.1 C.2.1 dX8_firstGets_1 rfl (lv_at hlv 1 rfl) ?_
  refine lv_icmp_lt C.1 C.2.1 dX8_firstGets_2 (tgt := 11) (by decide) (fun h2 => ?_) (fun h2 => ?_)
  · rw [if_pos h2] at r0
    refine lv_iconst C.1 C.2.1 dX8_firstGets_11 rfl ?_
    exact r0
  · rw [if_neg h2] at r0
    refine lv_iload_n C.1 C.2.1 dX8_firstGets_5 rfl (lv_at hlv 2 rfl) ?_
    refine lv_iload_n C.1 C.2.1 dX8_firstGets_6 rfl (lv_at hlv 1 rfl) ?_
    refine lv_isub C.1 C.2.1 dX8_firstGets_7 ?_
    refine lv_goto C.1 C.2.1 dX8_firstGets_8 (tgt := 12) (by decide) ?_
    exact r0
theorem zr_zf2 {h : zH} {ws : va_W} {x y w : Int32} : zMetV l D vwCl tys o z (zXX o z) zTs mX8_otherGets 2 300 h (h.1, h.2.1, 0) ws [.int x, .int y, .int w] (fun r _ => r = .int (zf2 x y w)) := by
  refine zMetV_of (mr := mX8_otherGets) (by decide) (by decide) (by decide) (show 3 ≤ 3 by decide) rfl rfl (ty := .int) rfl ?_
  intro p e s m below meth c0 Q ls C hw hP hD hret hlv
  replace C : zCx p { frames := 2, cells := 0, slots := 0, locals := 300 } s m ([.int x, .int y, .int w] : List Value).toArray meth c0 D vwCl tys z (zXX o z) zTs RX8 cX8_otherGets 3 "otherGets" := C
  have hlv : lv_has ls 3 [(0, .int x), (1, .int y), (2, .int w)] := hlv
  have hw2 : zwr vwCl tys o (h.1, h.2.1, 0) ws := ⟨hw.1, hw.2⟩
  have r0 : W p l e { frames := 2, cells := 0, slots := 0, locals := 300 } s m ([.int x, .int y, .int w] : List Value).toArray below meth c0 s.heap [] 0 0 Q (F0 m 12 ls [.int (zf2 x y w)]) := hret 12 ls _ _ [] ws rfl dX8_otherGets_12 zcg_rf hw2 hP hD va_S.rf rfl
  unfold zf2 at r0
  refine lv_iload_n C.1 C.2.1 dX8_otherGets_0 rfl (lv_at hlv 1 rfl) ?_
  refine lv_iload_n C.1 C.2.1 dX8_otherGets_1 rfl (lv_at hlv 0 rfl) ?_
  refine lv_icmp_le C.1 C.2.1 dX8_otherGets_2 (tgt := 11) (by decide) (fun h2 => ?_) (fun h2 => ?_)
  · rw [if_pos h2] at r0
    refine lv_iconst C.1 C.2.1 dX8_otherGets_11 rfl ?_
    exact r0
  · rw [if_neg h2] at r0
    refine lv_iload_n C.1 C.2.1 dX8_otherGets_5 rfl (lv_at hlv 2 rfl) ?_
    refine lv_iload_n C.1 C.2.1 dX8_otherGets_6 rfl (lv_at hlv 0 rfl) ?_
    refine lv_isub C.1 C.2.1 dX8_otherGets_7 ?_
    refine lv_goto C.1 C.2.1 dX8_otherGets_8 (tgt := 12) (by decide) ?_
    exact r0
theorem zr_rf {h : zH} {ws : va_W} {x y v w : Int32} {X Y V U : Nat} (hx : x.toInt = (X : Int)) (hy : y.toInt = (Y : Int)) (hv : v.toInt = (V : Int)) (hu : w.toInt = (U : Int)) (h9 : X ≤ 9 ∧ Y ≤ 9 ∧ V ≤ 9 ∧ U ≤ 9) : zMetV l D vwCl tys o z (zXX o z) zTs mX8_isRest 5 1900 h (h.1, h.2.1, 0) ws [.int x, .int y, .int v, .int w] (fun r _ => r = .int (Int32.ofInt (zrI (zrB X Y V U)))) := by
  refine zMetV_of (mr := mX8_isRest) (by decide) (by decide) (by decide) (show 4 ≤ 5 by decide) rfl rfl (ty := .boolean) rfl ?_
  intro p e s m below meth c0 Q ls C hw hP hD hret hlv
  replace C : zCx p { frames := 5, cells := 0, slots := 0, locals := 1900 } s m ([.int x, .int y, .int v, .int w] : List Value).toArray meth c0 D vwCl tys z (zXX o z) zTs RX8 cX8_isRest 5 "isRest" := C
  have hlv : lv_has ls 5 [(0, .int x), (1, .int y), (2, .int v), (3, .int w)] := hlv
  have hw2 : zwr vwCl tys o (h.1, h.2.1, 0) ws := ⟨hw.1, hw.2⟩
  have r42 : ∀ (ls : Array Slot) (ws1 : va_W) (H : Heap) (locs : List Loc), zcg 0 ws ws1 → zwr vwCl tys o (h.1, h.2.1, 0) ws1 → va_P D vwCl ws1 H → va_D (zA z) ws1 → va_S (zA z) s.heap H locs → zrB X Y V U = false → W p l e { frames := 5, cells := 0, slots := 0, locals := 1900 } s m ([.int x, .int y, .int v, .int w] : List Value).toArray below meth c0 H locs 0 0 Q (F0 m 42 ls []) := by
    intro ls ws1 H locs hc1 hw1 hP1 hD1 hS1 hb
    refine lv_iconst C.1 C.2.1 dX8_isRest_42 rfl ?_
    exact hret 43 ls _ H locs ws1 rfl dX8_isRest_43 hc1 hw1 hP1 hD1 hS1 (by rw [hb]; rfl)
  have r50 : ∀ (ls : Array Slot) (ws1 : va_W) (H : Heap) (locs : List Loc), zcg 0 ws ws1 → zwr vwCl tys o (h.1, h.2.1, 0) ws1 → va_P D vwCl ws1 H → va_D (zA z) ws1 → va_S (zA z) s.heap H locs → zrB X Y V U = true → W p l e { frames := 5, cells := 0, slots := 0, locals := 1900 } s m ([.int x, .int y, .int v, .int w] : List Value).toArray below meth c0 H locs 0 0 Q (F0 m 50 ls []) := by
    intro ls ws1 H locs hc1 hw1 hP1 hD1 hS1 hb
    refine lv_iconst C.1 C.2.1 dX8_isRest_50 rfl ?_
    exact hret 51 ls _ H locs ws1 rfl dX8_isRest_51 hc1 hw1 hP1 hD1 hS1 (by rw [hb]; rfl)
  have lp : ∀ (d b : Nat) (xb : Int32) (ls : Array Slot) (ws1 : va_W) (H : Heap) (locs : List Loc), zcg 0 ws ws1 → zwr vwCl tys o (h.1, h.2.1, 0) ws1 → va_P D vwCl ws1 H → va_D (zA z) ws1 → va_S (zA z) s.heap H locs → b + d = 10 → xb.toInt = (b : Int) → (1 ≤ b → ¬ zcN X Y V U 0) → (b = 10 → ¬ zcN X Y V U 9) → lv_has ls 5 [(4, .int xb), (0, .int x), (1, .int y), (2, .int v), (3, .int w)] → W p l e { frames := 5, cells := 0, slots := 0, locals := 1900 } s m ([.int x, .int y, .int v, .int w] : List Value).toArray below meth c0 H locs 0 0 Q (F0 m 3 ls []) := by
    intro d
    induction d with
    | zero =>
      intro b xb ls ws1 H locs hc1 hw1 hP1 hD1 hS1 hd hb q0 q9 hlv
      refine lv_iload C.1 C.2.1 dX8_isRest_3 (lv_at hlv 0 rfl) ?_
      refine lv_bipush C.1 C.2.1 dX8_isRest_5 (v := Int32.ofInt 9) (by decide) ?_
      refine lv_icmp_gt C.1 C.2.1 dX8_isRest_7 (tgt := 50) (by decide) (fun h7 => ?_) (fun h7 => ?_)
      · exact r50 ls ws1 H locs hc1 hw1 hP1 hD1 hS1 (zr_yes h9.1 h9.2.1 h9.2.2.2 (q0 (by omega)) (q9 (by omega)))
      · exfalso
        rw [Int32.lt_iff_toInt_lt, hb, show (Int32.ofInt 9).toInt = 9 by decide] at h7
        omega
    | succ d ih =>
      intro b xb ls ws1 H locs hc1 hw1 hP1 hD1 hS1 hd hb q0 q9 hlv
      have hB : b ≤ 9 := by omega
      have key := zcN_n hx hy hv hu hb h9 hB
      refine lv_iload C.1 C.2.1 dX8_isRest_3 (lv_at hlv 0 rfl) ?_
      refine lv_bipush C.1 C.2.1 dX8_isRest_5 (v := Int32.ofInt 9) (by decide) ?_
      refine lv_icmp_gt C.1 C.2.1 dX8_isRest_7 (tgt := 50) (by decide) (fun h7 => ?_) (fun h7 => ?_)
      · exfalso
        rw [Int32.lt_iff_toInt_lt, hb, show (Int32.ofInt 9).toInt = 9 by decide] at h7
        omega
      · skip
        refine lv_iload C.1 C.2.1 dX8_isRest_10 (lv_at hlv 0 rfl) ?_
        refine lv_iload_n C.1 C.2.1 dX8_isRest_12 rfl (lv_at hlv 2 rfl) ?_
        refine lv_iload_n C.1 C.2.1 dX8_isRest_13 rfl (lv_at hlv 3 rfl) ?_
        refine zv_callS (As := [.int xb, .int y, .int v]) (rest := []) C zXX_ok zTs_good (zr_zf1 (h := (h.1, h.2.1, 0)) (ws := ws1) (o := o)) rfl rfl (by decide) (by decide) zw1753 zw1751 zw1752 zw16 (n := 3) (by decide +kernel) dX8_isRest_14 rfl hw1 hP1 hD1 hS1 hlv.1 (by decide) (Nat.zero_le _) (Nat.zero_le _) (fun u2 ws2 H2 locs2 hc2 hw2 hP2 hD2 hS2 hq2 => ?_)
        subst hq2
        refine lv_iload_n C.1 C.2.1 dX8_isRest_17 rfl (lv_at hlv 1 rfl) ?_
        refine lv_iload_n C.1 C.2.1 dX8_isRest_18 rfl (lv_at hlv 2 rfl) ?_
        refine lv_iload_n C.1 C.2.1 dX8_isRest_19 rfl (lv_at hlv 3 rfl) ?_
        refine zv_callS (As := [.int x, .int y, .int v]) (rest := [.int (zf1 xb y v)]) C zXX_ok zTs_good (zr_zf1 (h := (h.1, h.2.1, 0)) (ws := ws2) (o := o)) rfl rfl (by decide) (by decide) zw1753 zw1751 zw1752 zw16 (n := 3) (by decide +kernel) dX8_isRest_20 rfl hw2 hP2 hD2 hS2 hlv.1 (show (1 + 0 : Nat) ≤ 8 by decide) (Nat.zero_le _) (Nat.zero_le _) (fun u3 ws3 H3 locs3 hc3 hw3 hP3 hD3 hS3 hq3 => ?_)
        subst hq3
        refine lv_icmp_gt C.1 C.2.1 dX8_isRest_23 (tgt := 42) (by decide) (fun h23 => ?_) (fun h23 => ?_)
        · exact r42 ls ws3 H3 locs3 (zcg00 (zcg00 hc1 hc2) hc3) hw3 hP3 hD3 hS3 (zr_no (key.mp (Or.inl h23)))
        · skip
          refine lv_iload_n C.1 C.2.1 dX8_isRest_26 rfl (lv_at hlv 1 rfl) ?_
          refine lv_iload C.1 C.2.1 dX8_isRest_27 (lv_at hlv 0 rfl) ?_
          refine lv_iload_n C.1 C.2.1 dX8_isRest_29 rfl (lv_at hlv 4 rfl) ?_
          refine zv_callS (As := [.int x, .int xb, .int w]) (rest := []) C zXX_ok zTs_good (zr_zf2 (h := (h.1, h.2.1, 0)) (ws := ws3) (o := o)) rfl rfl (by decide) (by decide) zw1756 zw1754 zw1755 zw16 (n := 3) (by decide +kernel) dX8_isRest_30 rfl hw3 hP3 hD3 hS3 hlv.1 (by decide) (Nat.zero_le _) (Nat.zero_le _) (fun u4 ws4 H4 locs4 hc4 hw4 hP4 hD4 hS4 hq4 => ?_)
          subst hq4
          refine lv_iload_n C.1 C.2.1 dX8_isRest_33 rfl (lv_at hlv 1 rfl) ?_
          refine lv_iload_n C.1 C.2.1 dX8_isRest_34 rfl (lv_at hlv 2 rfl) ?_
          refine lv_iload_n C.1 C.2.1 dX8_isRest_35 rfl (lv_at hlv 4 rfl) ?_
          refine zv_callS (As := [.int x, .int y, .int w]) (rest := [.int (zf2 x xb w)]) C zXX_ok zTs_good (zr_zf2 (h := (h.1, h.2.1, 0)) (ws := ws4) (o := o)) rfl rfl (by decide) (by decide) zw1756 zw1754 zw1755 zw16 (n := 3) (by decide +kernel) dX8_isRest_36 rfl hw4 hP4 hD4 hS4 hlv.1 (show (1 + 0 : Nat) ≤ 8 by decide) (Nat.zero_le _) (Nat.zero_le _) (fun u5 ws5 H5 locs5 hc5 hw5 hP5 hD5 hS5 hq5 => ?_)
          subst hq5
          refine lv_icmp_le C.1 C.2.1 dX8_isRest_39 (tgt := 44) (by decide) (fun h39 => ?_) (fun h39 => ?_)
          · have hn : ¬ zcN X Y V U b := fun q => by rcases key.mpr q with q | q; exact h23 q; exact q h39
            refine lv_iinc C.1 C.2.1 dX8_isRest_44 hlv (k := 0) rfl rfl (by decide) (lv' := [(4, _), (0, .int x), (1, .int y), (2, .int v), (3, .int w)]) rfl (fun ls hlv => ?_)
            refine lv_goto C.1 C.2.1 dX8_isRest_47 (tgt := 3) (by decide) ?_
            refine ih (b + 1) _ ls ws5 H5 locs5 (zcg00 (zcg00 (zcg00 (zcg00 hc1 hc2) hc3) hc4) hc5) hw5 hP5 hD5 hS5 (by omega) (zrinc hb (by omega)) (fun _ => ?_) (fun hq => ?_) hlv
            · by_cases hz : b = 0
              · subst hz; exact hn
              · exact q0 (by omega)
            · have hz : b = 9 := by omega
              subst hz
              exact hn
          · exact r42 ls ws5 H5 locs5 (zcg00 (zcg00 (zcg00 (zcg00 hc1 hc2) hc3) hc4) hc5) hw5 hP5 hD5 hS5 (zr_no (key.mp (Or.inr h39)))
  refine lv_iconst C.1 C.2.1 dX8_isRest_0 rfl ?_
  refine lv_istore C.1 C.2.1 dX8_isRest_1 hlv (lv' := [(4, _), (0, .int x), (1, .int y), (2, .int v), (3, .int w)]) (by decide) rfl (fun ls hlv => ?_)
  exact lp 10 0 _ ls ws s.heap [] zcg_rf hw2 hP hD va_S.rf rfl (by decide) (fun q => by omega) (fun q => by omega) hlv
theorem zMet_V {cl : List vw_C} {X : State → Heap → Prop} {Ts : List Cond} {mr : zM} {fr lo : Nat} {h h2 : zH} {as : List zAV} {r : zAV} {k : zRt} (hM : ∀ (ws : va_W) (vs : List Value), zr2 (zgH o (zad ws)) as vs → zMetV l D cl tys o z X Ts mr fr lo h h2 ws vs (fun v ws' => zgH o (zad ws') r v)) (hk : k (some r) h2 = true) : zMet l D cl tys o z X Ts mr fr lo h as k := by
  intro ws vs hvs p e a1 a2 a3 s m args below b1 b2 b3 b4
  obtain ⟨n, oc, d1, d2, d3, ⟨⟨⟨v, ws', f1, f2, f3, f4, f5, f6⟩, g1⟩, g2⟩⟩ := hM ws vs hvs p e a1 a2 a3 s m args below b1 b2 b3 b4
  exact ⟨n, oc, d1, d2, d3, ⟨⟨⟨some r, some v, h2, ws', f1, f6, f2, f3, f4, f5, hk⟩, g1⟩, g2⟩⟩
/-- one of 0 to 9 -/
def zexN (a : zN) : Option Nat := match a.1.1 with
  | .ofNat n => (match Nat.ble n 9 && zle a.1.2 (.ofNat n) with
    | true => some n
    | false => none)
  | .negSucc _ => none
theorem zexN_ok {a : zN} {n : Nat} {x : Int32} (h : zexN a = some n) (hx : zmi a.1 x) : x.toInt = (n : Int) ∧ n ≤ 9 := by
  unfold zexN at h
  split at h
  · rename_i q hq
    split at h
    · rename_i hb
      cases h
      rw [Bool.and_eq_true, zle_iff] at hb
      obtain ⟨h1, h2⟩ := hx
      rw [hq] at h1
      have h1 : (n : Int) ≤ x.toInt := h1
      have h3 : a.1.2 ≤ (n : Int) := hb.2
      exact ⟨by omega, Nat.le_of_ble_eq_true hb.1⟩
    · cases h
  · cases h
def zx4 (as : List zAV) : Option (Nat × Nat × Nat × Nat) := match as with
  | [.inl a, .inl b, .inl c, .inl d] => (match zexN a with
    | some x => (match zexN b with
      | some y => (match zexN c with
        | some v => (match zexN d with
          | some w => some (x, y, v, w)
          | none => none)
        | none => none)
      | none => none)
    | none => none)
  | _ => none
theorem zx4_ok {as : List zAV} {X Y V U : Nat} (h : zx4 as = some (X, Y, V, U)) {ad : Nat → Option Nat} {vs : List Value} (hvs : zr2 (zgH o ad) as vs) : ∃ x y v w : Int32, vs = [.int x, .int y, .int v, .int w] ∧ x.toInt = (X : Int) ∧ y.toInt = (Y : Int) ∧ v.toInt = (V : Int) ∧ w.toInt = (U : Int) ∧ (X ≤ 9 ∧ Y ≤ 9 ∧ V ≤ 9 ∧ U ≤ 9) := by
  unfold zx4 at h
  split at h
  · rename_i a b c d
    split at h
    · rename_i e1
      split at h
      · rename_i e2
        split at h
        · rename_i e3
          split at h
          · rename_i e4
            cases h
            obtain ⟨v1, t1, rfl, ⟨x, rfl, m1⟩, h2⟩ := zr2_cons hvs
            obtain ⟨v2, t2, rfl, ⟨y, rfl, m2⟩, h3⟩ := zr2_cons h2
            obtain ⟨v3, t3, rfl, ⟨v, rfl, m3⟩, h4⟩ := zr2_cons h3
            obtain ⟨v4, t4, rfl, ⟨w, rfl, m4⟩, h5⟩ := zr2_cons h4
            have e5 := zr2_nil h5
            subst e5
            have g1 := zexN_ok e1 m1
            have g2 := zexN_ok e2 m2
            have g3 := zexN_ok e3 m3
            have g4 := zexN_ok e4 m4
            exact ⟨x, y, v, w, rfl, g1.1, g2.1, g3.1, g4.1, g1.2, g2.2, g3.2, g4.2⟩
          · cases h
        · cases h
      · cases h
    · cases h
  · cases h
/-- of these two the answer, the world as it was -/
def zrov : zOw := fun fr lo mi as h => match Nat.beq mi 135 || Nat.beq mi 240 with
  | true => (match zx4 as with
    | some q => (match Nat.ble 6 fr && Nat.ble 2000 lo with
      | true => (match zrB q.1 q.2.1 q.2.2.1 q.2.2.2 with
        | true => some [(some (.inl ((.ofNat 1, .ofNat 1), none)), (h.1, h.2.1, 0))]
        | false => some [(some (.inl ((.ofNat 0, .ofNat 0), none)), (h.1, h.2.1, 0))])
      | false => none)
    | none => none)
  | false => none
theorem zrov_ok : zOwOk l D vwCl tys o z (zXX o z) zTs zprog2 zrov := by
  intro fr lo mi mr as h qs hm hq
  unfold zrov at hq
  split at hq
  · rename_i hmi
    split at hq
    · rename_i q hx
      obtain ⟨X, Y, V, U⟩ := q
      split at hq
      · rename_i hr
        rw [Bool.and_eq_true] at hr
        have hr1 := Nat.le_of_ble_eq_true hr.1
        have hr2 := Nat.le_of_ble_eq_true hr.2
        have hqs : qs = [(some (.inl ((zrI (zrB X Y V U), zrI (zrB X Y V U)), none)), (h.1, h.2.1, 0))] := by
          split at hq
          · rename_i hb
            have hb : zrB X Y V U = true := hb
            rw [hb]
            exact (Option.some.inj hq).symm
          · rename_i hb
            have hb : zrB X Y V U = false := hb
            rw [hb]
            exact (Option.some.inj hq).symm
        have fin : ∀ k : zRt, zall (fun q : Option zAV × zH => k q.1 q.2) qs = true → k (some (.inl ((zrI (zrB X Y V U), zrI (zrB X Y V U)), none))) (h.1, h.2.1, 0) = true := by
          intro k hk
          rw [hqs] at hk
          exact zall_mem hk _ List.mem_cons_self
        have an : ∀ (ad : Nat → Option Nat) (v : Value), v = .int (Int32.ofInt (zrI (zrB X Y V U))) → zgH o ad (.inl ((zrI (zrB X Y V U), zrI (zrB X Y V U)), none)) v := by
          intro ad v hv
          refine ⟨_, hv, ?_⟩
          cases zrB X Y V U with
          | true => exact ⟨by decide, by decide⟩
          | false => exact ⟨by decide, by decide⟩
        rw [Bool.or_eq_true] at hmi
        rcases hmi with hmi | hmi
        · have e := Nat.eq_of_beq_eq_true hmi
          subst e
          have e : mr = mX7_isAtRest := Option.some.inj (hm.symm.trans (show zget zprog2 135 = some mX7_isAtRest from rfl))
          subst e
          refine ⟨5, 1900, by omega, by show 8 + (7 + 11) + 1900 ≤ lo; omega, fun k hk => zMet_V (h2 := (h.1, h.2.1, 0)) (fun ws vs hvs => ?_) (fin k hk)⟩
          obtain ⟨x, y, v, w, rfl, g1, g2, g3, g4, g5⟩ := zx4_ok hx hvs
          exact zMetV_mono (zr_cl g1 g2 g3 g4 g5) (fun v ws' _ hv => an _ v hv)
        · have e := Nat.eq_of_beq_eq_true hmi
          subst e
          have e : mr = mX8_isRest := Option.some.inj (hm.symm.trans (show zget zprog2 240 = some mX8_isRest from rfl))
          subst e
          refine ⟨5, 1900, by omega, by show 8 + (5 + 11) + 1900 ≤ lo; omega, fun k hk => zMet_V (h2 := (h.1, h.2.1, 0)) (fun ws vs hvs => ?_) (fin k hk)⟩
          obtain ⟨x, y, v, w, rfl, g1, g2, g3, g4, g5⟩ := zx4_ok hx hvs
          exact zMetV_mono (zr_rf g1 g2 g3 g4 g5) (fun v ws' _ hv => an _ v hv)
      · cases hq
    · cases hq
  · cases hq
noncomputable def zovR (ds : List zKw) : zOw := fun fr lo mi as h => match zrov fr lo mi as h with
  | some q => some q
  | none => zovW ds fr lo mi as h
theorem zovR_ok {ds : List zKw} (hd : ∀ d ∈ ds, zKnW l D vwCl tys o z (zXX o z) zTs zprog2 d) : zOwOk l D vwCl tys o z (zXX o z) zTs zprog2 (zovR ds) := by
  intro fr lo mi mr as h qs hm hq
  unfold zovR at hq
  split at hq
  · rename_i q hx
    cases hq
    exact zrov_ok fr lo mi mr as h _ hm hx
  · exact zovW_ok hd fr lo mi mr as h qs hm hq
end ZREST
