/-! riders() of the class, with values -/
theorem zD_le {c : Nat} {S : Nat → Int32} (hc : c ≤ 8) : ∀ {p : Nat} {q : Nat × Nat × Nat}, zD c S p = some q → c + q.2.1 ≤ 8 ∧ q.1 ≤ 2
  | 0, q, h => by
    cases h
    exact ⟨hc, by show 0 ≤ 2; decide⟩
  | p + 1, q, h => by
    have h : (match zD c S p with
      | none => none
      | some q => zds c (S p).toInt q) = some q := h
    split at h
    · cases h
    · rename_i q1 h1
      obtain ⟨k1, k2⟩ := zD_le hc h1
      obtain ⟨q1, q2, q3⟩ := q1
      unfold zds at h
      dsimp only at h k1 k2
      split at h
      · split at h
        · cases h
          exact ⟨k1, by show 1 ≤ 2; decide⟩
        · cases h
      · split at h
        · rename_i h9
          cases h
          exact ⟨by show c + (q2 + 1) ≤ 8; omega, by show 2 ≤ 2; decide⟩
        · cases h
      · split at h
        · cases h
          exact ⟨k1, by show 0 ≤ 2; decide⟩
        · split at h
          · cases h
            exact ⟨k1, by show 2 ≤ 2; decide⟩
          · cases h
/-- what the class has written of the LINE it reads -/
def zIn (g : Nat → Nat → Int32) (c : Nat) (q : Nat × Nat × Nat) : Prop := q.1 = 2 → 0 < c + q.2.1 ∧ c + q.2.1 ≤ 8 ∧ g 4 (c + q.2.1 - 1) = Int32.ofNat q.2.2 ∧ q.2.2 < 256
def zOtC (g g' : Nat → Nat → Int32) : Prop := ∀ k, k ≠ 4 → k ≠ 5 → k ≠ 6 → g' k = g k
theorem zOtC_rf {g : Nat → Nat → Int32} : zOtC g g := fun _ _ _ _ => rfl
theorem zOtC_t {g g' g'' : Nat → Nat → Int32} (h : zOtC g g') (h' : zOtC g' g'') : zOtC g g'' := fun k h1 h2 h3 => (h' k h1 h2 h3).trans (h k h1 h2 h3)
theorem zOtC_u {g g' : Nat → Nat → Int32} {k0 i : Nat} {v : Int32} (h : zOtC g g') (hk : k0 = 4 ∨ k0 = 5 ∨ k0 = 6) : zOtC g (zua g' k0 i v) := by
  intro k h1 h2 h3
  rw [← h k h1 h2 h3]
  unfold zua
  rw [zbq_f (by omega)]
def zTk (f : Nat → Nat → Value) (g : Nat → Nat → Int32) (c : Nat) (x : Int) (q : Nat × Nat × Nat) (v : Option Value) (f' : Nat → Nat → Value) (g' : Nat → Nat → Int32) : Prop := f = f' ∧ zOtC g g' ∧ ((zds c x q = none ∧ v = some (.int (Int32.ofInt (-1)))) ∨ ∃ q', zds c x q = some q' ∧ v = some (.int (Int32.ofNat q'.1)) ∧ zIn g' c q')
theorem zi52' : ((Int8.ofInt 52).toInt32).toInt = 52 := by decide
theorem zi57' : ((Int8.ofInt 57).toInt32).toInt = 57 := by decide
theorem zi48 : ((Int8.ofInt 48).toInt32).toInt = 48 := by decide
theorem zo22 : Int32.ofInt 2 = Int32.ofNat 2 := by decide
theorem zsub48 {x : Int32} (h1 : 48 ≤ x.toInt) (h2 : x.toInt ≤ 57) : (x - (Int8.ofInt 48).toInt32).toInt = x.toInt - 48 := by
  rw [Int32.toInt_sub, zi48, zbm (B := 2147483648) (by decide) (by omega) (by omega)]
theorem zsubN {a : Nat} (h0 : 0 < a) (h : a < 1000) : Int32.ofNat a - Int32.ofInt 1 = Int32.ofNat (a - 1) := by
  apply Int32.toInt_inj.mp
  rw [Int32.toInt_sub, zon h, zon (by omega), show (Int32.ofInt 1).toInt = 1 by decide, zbm (B := 2147483648) (by decide) (by omega) (by omega)]
  omega
theorem zaz {x : Int32} : x + Int32.ofInt 0 = x := by rw [show Int32.ofInt 0 = 0 by decide, Int32.add_zero]
theorem zds_l1 {c a l k a9 l9 k9 : Nat} {x : Int} (ha : a ≠ 1) (h : zds c x (a, l, k) = some (a9, l9, k9)) : l9 = l := by
  unfold zds at h
  dsimp only at h
  split at h
  · split at h
    · cases h; rfl
    · cases h
  · exact absurd rfl ha
  · split at h
    · cases h; rfl
    · split at h
      · cases h; rfl
      · cases h
theorem zds_l2 {c l k a9 l9 k9 : Nat} {x : Int} (h : zds c x (1, l, k) = some (a9, l9, k9)) : l9 = l + 1 := by
  have h : (if 49 ≤ x ∧ x ≤ 57 ∧ c + l < 8 then some (2, l + 1, 0) else none) = some (a9, l9, k9) := h
  split at h
  · cases h; rfl
  · cases h
section ZCLS
variable {l0 : Launch} {D : va_G} {tys : List (ClassId × FieldType)} {o : zO} {z : Nat} {b : Nat → Nat} {f : Nat → Nat → Value} {g : Nat → Nat → Int32}
theorem zc_at {n q : Nat} (hL : f 1 1 = .int (Int32.ofNat n)) (hn : n ≤ 80) (hq : q < n) : zCt l0 D tys o z zyI b mX6_at 2 300 [.ref (b 1), .int (Int32.ofNat q)] f g (fun v f' g' => v = some (.int (g 2 q)) ∧ f = f' ∧ g = g') := by
  refine zCt_of (mr := mX6_at) (by decide) (by decide) (by decide) (show 2 ≤ 2 by decide) rfl rfl ?_
  intro p e s m below meth c0 Q ls ws C hret hv hlv
  replace C : zCx p { frames := 2, cells := 0, slots := 0, locals := 300 } s m ([.ref (b 1), .int (Int32.ofNat q)] : List Value).toArray meth c0 D vwCl tys z (zXX o z) zTs RX6 cX6_at 2 "at" := C
  have hlv : lv_has ls 2 [(0, .ref (b 1)), (1, .int (Int32.ofNat q))] := hlv
  have hq9 := zon (show q < 1000 by omega)
  refine lv_iload_n C.1 C.2.1 (zda zDX6_at 0 rfl rfl) rfl (lv_at hlv 1 rfl) ?_
  refine lv_if_lt C.1 C.2.1 (zda zDX6_at 1 rfl rfl) (tgt := 21) (by decide) (fun h1 => ?_) (fun h1 => ?_)
  · rw [Int32.lt_iff_toInt_lt, hq9, Int32.toInt_zero] at h1
    omega
  · refine lv_iload_n C.1 C.2.1 (zda zDX6_at 4 rfl rfl) rfl (lv_at hlv 1 rfl) ?_
    refine lv_aload_n C.1 C.2.1 (zda zDX6_at 5 rfl rfl) rfl (lv_at hlv 0 rfl) ?_
    refine zV_get C (zda zDX6_at 6 rfl rfl) (show vwCl[6]? = some (RX6, TX6, 2) from rfl) zinX6 (by decide) zw38 hv zvk1 (show 1 < 126 by decide) rfl (j := 1) hL ?_
    refine lv_icmp_ge C.1 C.2.1 (zda zDX6_at 9 rfl rfl) (tgt := 21) (by decide) (fun h9 => ?_) (fun h9 => ?_)
    · rw [zol (by omega) (by omega)] at h9
      omega
    · refine lv_aload_n C.1 C.2.1 (zda zDX6_at 12 rfl rfl) rfl (lv_at hlv 0 rfl) ?_
      refine zV_get C (zda zDX6_at 13 rfl rfl) (show vwCl[6]? = some (RX6, TX6, 2) from rfl) zinX6 (by decide) zw37 hv zvk1 (show 1 < 126 by decide) rfl (j := 0) (zV_ref hv zvk1 (show 1 < 126 by decide) rfl) ?_
      refine lv_iload_n C.1 C.2.1 (zda zDX6_at 16 rfl rfl) rfl (lv_at hlv 1 rfl) ?_
      refine zV_ld0 C (zda zDX6_at 17 rfl rfl) hv zvk2 (show 2 < 126 by decide) (i := q) (hq9) (by omega) ?_
      refine lv_goto C.1 C.2.1 (zda zDX6_at 18 rfl rfl) (tgt := 22) (by decide) ?_
      exact hret 22 ls (some _) _ _ _ _ _ (Or.inl ⟨_, .int, rfl, rfl, rfl, (zda zDX6_at 22 rfl rfl)⟩) hv (⟨rfl, rfl, rfl⟩)
theorem zc_most {r : Nat} {x : Int32} (hr : r < 8) (h1 : 0 ≤ x.toInt) (h2 : x.toInt ≤ 4) : zCt l0 D tys o z zyI b mX0_takeMost 2 300 [.ref (b 3), .int (Int32.ofNat r), .int x] f g (fun v f' g' => v = some (.int (Int32.ofInt 1)) ∧ f = f' ∧ g' = zua g 5 r x) := by
  refine zCt_of (mr := mX0_takeMost) (by decide) (by decide) (by decide) (show 3 ≤ 3 by decide) rfl rfl ?_
  intro p e s m below meth c0 Q ls ws C hret hv hlv
  replace C : zCx p { frames := 2, cells := 0, slots := 0, locals := 300 } s m ([.ref (b 3), .int (Int32.ofNat r), .int x] : List Value).toArray meth c0 D vwCl tys z (zXX o z) zTs RX0 cX0_takeMost 3 "takeMost" := C
  have hlv : lv_has ls 3 [(0, .ref (b 3)), (1, .int (Int32.ofNat r)), (2, .int x)] := hlv
  have hr9 := zon (show r < 1000 by omega)
  refine lv_aload_n C.1 C.2.1 (zda zDX0_takeMost 0 rfl rfl) rfl (lv_at hlv 0 rfl) ?_
  refine zV_get C (zda zDX0_takeMost 1 rfl rfl) (show vwCl[0]? = some (RX0, TX0, 12) from rfl) zinX0 (by decide) zw248 hv zvk3 (show 3 < 126 by decide) rfl (j := 1) (zV_ref hv zvk3 (show 3 < 126 by decide) rfl) ?_
  refine lv_iload_n C.1 C.2.1 (zda zDX0_takeMost 4 rfl rfl) rfl (lv_at hlv 1 rfl) ?_
  refine lv_iload_n C.1 C.2.1 (zda zDX0_takeMost 5 rfl rfl) rfl (lv_at hlv 2 rfl) ?_
  refine zV_st0 C (zda zDX0_takeMost 6 rfl rfl) hv zvk5 (show 5 < 126 by decide) (i := r) (hr9) (by omega) (zelr_ok zve5 (by omega) (by show (0 : Int) ≤ _; omega) (by show _ ≤ (4 : Int); omega)) (fun ws H locs hv => ?_)
  refine lv_iconst C.1 C.2.1 (zda zDX0_takeMost 7 rfl rfl) rfl ?_
  exact hret 8 ls (some _) _ _ _ _ _ (Or.inl ⟨_, .int, rfl, rfl, rfl, (zda zDX0_takeMost 8 rfl rfl)⟩) hv (⟨rfl, rfl, rfl⟩)
theorem zc_width {r : Nat} {x : Int32} (hr : r < 8) (h1 : 0 ≤ x.toInt) (h2 : x.toInt ≤ 9) : zCt l0 D tys o z zyI b mX0_takeWidth 2 300 [.ref (b 3), .int (Int32.ofNat r), .int x] f g (fun v f' g' => v = some (.int (Int32.ofInt 2)) ∧ f = f' ∧ g' = zua (zua g 6 r x) 4 r (Int32.ofInt 0)) := by
  refine zCt_of (mr := mX0_takeWidth) (by decide) (by decide) (by decide) (show 3 ≤ 3 by decide) rfl rfl ?_
  intro p e s m below meth c0 Q ls ws C hret hv hlv
  replace C : zCx p { frames := 2, cells := 0, slots := 0, locals := 300 } s m ([.ref (b 3), .int (Int32.ofNat r), .int x] : List Value).toArray meth c0 D vwCl tys z (zXX o z) zTs RX0 cX0_takeWidth 3 "takeWidth" := C
  have hlv : lv_has ls 3 [(0, .ref (b 3)), (1, .int (Int32.ofNat r)), (2, .int x)] := hlv
  have hr9 := zon (show r < 1000 by omega)
  refine lv_aload_n C.1 C.2.1 (zda zDX0_takeWidth 0 rfl rfl) rfl (lv_at hlv 0 rfl) ?_
  refine zV_get C (zda zDX0_takeWidth 1 rfl rfl) (show vwCl[0]? = some (RX0, TX0, 12) from rfl) zinX0 (by decide) zw250 hv zvk3 (show 3 < 126 by decide) rfl (j := 2) (zV_ref hv zvk3 (show 3 < 126 by decide) rfl) ?_
  refine lv_iload_n C.1 C.2.1 (zda zDX0_takeWidth 4 rfl rfl) rfl (lv_at hlv 1 rfl) ?_
  refine lv_iload_n C.1 C.2.1 (zda zDX0_takeWidth 5 rfl rfl) rfl (lv_at hlv 2 rfl) ?_
  refine zV_st0 C (zda zDX0_takeWidth 6 rfl rfl) hv zvk6 (show 6 < 126 by decide) (i := r) (hr9) (by omega) (zelr_ok zve6 (by omega) (by show (0 : Int) ≤ _; omega) (by show _ ≤ (9 : Int); omega)) (fun ws H locs hv => ?_)
  refine lv_aload_n C.1 C.2.1 (zda zDX0_takeWidth 7 rfl rfl) rfl (lv_at hlv 0 rfl) ?_
  refine zV_get C (zda zDX0_takeWidth 8 rfl rfl) (show vwCl[0]? = some (RX0, TX0, 12) from rfl) zinX0 (by decide) zw246 hv zvk3 (show 3 < 126 by decide) rfl (j := 0) (zV_ref hv zvk3 (show 3 < 126 by decide) rfl) ?_
  refine lv_iload_n C.1 C.2.1 (zda zDX0_takeWidth 11 rfl rfl) rfl (lv_at hlv 1 rfl) ?_
  refine lv_iconst C.1 C.2.1 (zda zDX0_takeWidth 12 rfl rfl) rfl ?_
  refine zV_st0 C (zda zDX0_takeWidth 13 rfl rfl) hv zvk4 (show 4 < 126 by decide) (i := r) (hr9) (by omega) (zelr_ok zve4 (by omega) (by show (0 : Int) ≤ _; decide) (by show _ ≤ (255 : Int); decide)) (fun ws H locs hv => ?_)
  refine lv_iconst C.1 C.2.1 (zda zDX0_takeWidth 14 rfl rfl) rfl ?_
  exact hret 15 ls (some _) _ _ _ _ _ (Or.inl ⟨_, .int, rfl, rfl, rfl, (zda zDX0_takeWidth 15 rfl rfl)⟩) hv (⟨rfl, rfl, rfl⟩)
theorem zc_hourN {r k q : Nat} (hr : r < 8) (hk : g 4 r = Int32.ofNat k) (hk8 : k < 256) (hq : q < 8) (hkq : ¬ k < 2 ^ q) : zCt l0 D tys o z zyI b mX0_takeHour 2 300 [.ref (b 3), .int (Int32.ofNat r), .int (Int32.ofNat (2 ^ q))] f g (fun v f' g' => v = some (.int (Int32.ofInt (-1))) ∧ f = f' ∧ g = g') := by
  refine zCt_of (mr := mX0_takeHour) (by decide) (by decide) (by decide) (show 3 ≤ 3 by decide) rfl rfl ?_
  intro p e s m below meth c0 Q ls ws C hret hv hlv
  replace C : zCx p { frames := 2, cells := 0, slots := 0, locals := 300 } s m ([.ref (b 3), .int (Int32.ofNat r), .int (Int32.ofNat (2 ^ q))] : List Value).toArray meth c0 D vwCl tys z (zXX o z) zTs RX0 cX0_takeHour 3 "takeHour" := C
  have hlv : lv_has ls 3 [(0, .ref (b 3)), (1, .int (Int32.ofNat r)), (2, .int (Int32.ofNat (2 ^ q)))] := hlv
  have hr9 := zon (show r < 1000 by omega)
  have hp8 := zone8 q hq
  refine lv_iload_n C.1 C.2.1 (zda zDX0_takeHour 0 rfl rfl) rfl (lv_at hlv 1 rfl) ?_
  refine lv_bipush C.1 C.2.1 (zda zDX0_takeHour 1 rfl rfl) rfl ?_
  refine lv_icmp_ge C.1 C.2.1 (zda zDX0_takeHour 3 rfl rfl) (tgt := 16) (by decide) (fun h3 => ?_) (fun h3 => ?_)
  · rw [zi8, zol (by omega) (by omega)] at h3
    omega
  · refine lv_aload_n C.1 C.2.1 (zda zDX0_takeHour 6 rfl rfl) rfl (lv_at hlv 0 rfl) ?_
    refine zV_get C (zda zDX0_takeHour 7 rfl rfl) (show vwCl[0]? = some (RX0, TX0, 12) from rfl) zinX0 (by decide) zw246 hv zvk3 (show 3 < 126 by decide) rfl (j := 0) (zV_ref hv zvk3 (show 3 < 126 by decide) rfl) ?_
    refine lv_iload_n C.1 C.2.1 (zda zDX0_takeHour 10 rfl rfl) rfl (lv_at hlv 1 rfl) ?_
    refine zV_ld0 C (zda zDX0_takeHour 11 rfl rfl) hv zvk4 (show 4 < 126 by decide) (i := r) (hr9) (by omega) ?_
    rw [hk]
    refine lv_iload_n C.1 C.2.1 (zda zDX0_takeHour 12 rfl rfl) rfl (lv_at hlv 2 rfl) ?_
    refine lv_icmp_lt C.1 C.2.1 (zda zDX0_takeHour 13 rfl rfl) (tgt := 18) (by decide) (fun h13 => ?_) (fun h13 => ?_)
    · rw [zolt (by omega) (by omega)] at h13
      omega
    · refine lv_iconst C.1 C.2.1 (zda zDX0_takeHour 16 rfl rfl) rfl ?_
      exact hret 17 ls (some _) _ _ _ _ _ (Or.inl ⟨_, .int, rfl, rfl, rfl, (zda zDX0_takeHour 17 rfl rfl)⟩) hv (⟨rfl, rfl, rfl⟩)
theorem zc_hourY {r k q : Nat} (hr : r < 8) (hk : g 4 r = Int32.ofNat k) (hk8 : k < 256) (hq : q < 8) (hkq : k < 2 ^ q) : zCt l0 D tys o z zyI b mX0_takeHour 2 300 [.ref (b 3), .int (Int32.ofNat r), .int (Int32.ofNat (2 ^ q))] f g (fun v f' g' => v = some (.int (Int32.ofInt 2)) ∧ f = f' ∧ g' = zua g 4 r (Int32.ofNat (k ||| 2 ^ q))) := by
  refine zCt_of (mr := mX0_takeHour) (by decide) (by decide) (by decide) (show 3 ≤ 3 by decide) rfl rfl ?_
  intro p e s m below meth c0 Q ls ws C hret hv hlv
  replace C : zCx p { frames := 2, cells := 0, slots := 0, locals := 300 } s m ([.ref (b 3), .int (Int32.ofNat r), .int (Int32.ofNat (2 ^ q))] : List Value).toArray meth c0 D vwCl tys z (zXX o z) zTs RX0 cX0_takeHour 3 "takeHour" := C
  have hlv : lv_has ls 3 [(0, .ref (b 3)), (1, .int (Int32.ofNat r)), (2, .int (Int32.ofNat (2 ^ q)))] := hlv
  have hr9 := zon (show r < 1000 by omega)
  have hp8 := zone8 q hq
  have ho8 : k ||| 2 ^ q < 2 ^ 8 := Nat.or_lt_two_pow (by omega) (by omega)
  have ho9 := zon (show k ||| 2 ^ q < 1000 by omega)
  refine lv_iload_n C.1 C.2.1 (zda zDX0_takeHour 0 rfl rfl) rfl (lv_at hlv 1 rfl) ?_
  refine lv_bipush C.1 C.2.1 (zda zDX0_takeHour 1 rfl rfl) rfl ?_
  refine lv_icmp_ge C.1 C.2.1 (zda zDX0_takeHour 3 rfl rfl) (tgt := 16) (by decide) (fun h3 => ?_) (fun h3 => ?_)
  · rw [zi8, zol (by omega) (by omega)] at h3
    omega
  · refine lv_aload_n C.1 C.2.1 (zda zDX0_takeHour 6 rfl rfl) rfl (lv_at hlv 0 rfl) ?_
    refine zV_get C (zda zDX0_takeHour 7 rfl rfl) (show vwCl[0]? = some (RX0, TX0, 12) from rfl) zinX0 (by decide) zw246 hv zvk3 (show 3 < 126 by decide) rfl (j := 0) (zV_ref hv zvk3 (show 3 < 126 by decide) rfl) ?_
    refine lv_iload_n C.1 C.2.1 (zda zDX0_takeHour 10 rfl rfl) rfl (lv_at hlv 1 rfl) ?_
    refine zV_ld0 C (zda zDX0_takeHour 11 rfl rfl) hv zvk4 (show 4 < 126 by decide) (i := r) (hr9) (by omega) ?_
    rw [hk]
    refine lv_iload_n C.1 C.2.1 (zda zDX0_takeHour 12 rfl rfl) rfl (lv_at hlv 2 rfl) ?_
    refine lv_icmp_lt C.1 C.2.1 (zda zDX0_takeHour 13 rfl rfl) (tgt := 18) (by decide) (fun h13 => ?_) (fun h13 => ?_)
    · refine lv_aload_n C.1 C.2.1 (zda zDX0_takeHour 18 rfl rfl) rfl (lv_at hlv 0 rfl) ?_
      refine zV_get C (zda zDX0_takeHour 19 rfl rfl) (show vwCl[0]? = some (RX0, TX0, 12) from rfl) zinX0 (by decide) zw246 hv zvk3 (show 3 < 126 by decide) rfl (j := 0) (zV_ref hv zvk3 (show 3 < 126 by decide) rfl) ?_
      refine lv_iload_n C.1 C.2.1 (zda zDX0_takeHour 22 rfl rfl) rfl (lv_at hlv 1 rfl) ?_
      refine lv_dup2_11 C.1 C.2.1 (zda zDX0_takeHour 23 rfl rfl) rfl rfl ?_
      refine zV_ld0 C (zda zDX0_takeHour 24 rfl rfl) hv zvk4 (show 4 < 126 by decide) (i := r) (hr9) (by omega) ?_
      rw [hk]
      refine lv_iload_n C.1 C.2.1 (zda zDX0_takeHour 25 rfl rfl) rfl (lv_at hlv 2 rfl) ?_
      refine lv_ior C.1 C.2.1 (zda zDX0_takeHour 26 rfl rfl) ?_
      rw [zorN hk8 hp8]
      refine zV_st0 C (zda zDX0_takeHour 27 rfl rfl) hv zvk4 (show 4 < 126 by decide) (i := r) (hr9) (by omega) (zelr_ok zve4 (by omega) (by show (0 : Int) ≤ _; omega) (by show _ ≤ (255 : Int); omega)) (fun ws H locs hv => ?_)
      refine lv_iconst C.1 C.2.1 (zda zDX0_takeHour 28 rfl rfl) rfl ?_
      exact hret 29 ls (some _) _ _ _ _ _ (Or.inl ⟨_, .int, rfl, rfl, rfl, (zda zDX0_takeHour 29 rfl rfl)⟩) hv (⟨rfl, rfl, rfl⟩)
    · rw [zolt (by omega) (by omega)] at h13
      omega
set_option maxHeartbeats 8000000 in
theorem zc_sign {c l k at0 : Nat} {x : Int32} (ha : at0 ≤ 2) (hcl : c + l ≤ 8) (hI : zIn g c (at0, l, k)) : zCt l0 D tys o z zyI b mX0_takeSign 6 600 [.ref (b 3), .int x, .int (Int32.ofNat at0), .int (Int32.ofNat (c + l))] f g (zTk f g c x.toInt (at0, l, k)) := by
  refine zCt_of (mr := mX0_takeSign) (by decide) (by decide) (by decide) (show 4 ≤ 4 by decide) rfl rfl ?_
  intro p e s m below meth c0 Q ls ws C hret hv hlv
  replace C : zCx p { frames := 6, cells := 0, slots := 0, locals := 600 } s m ([.ref (b 3), .int x, .int (Int32.ofNat at0), .int (Int32.ofNat (c + l))] : List Value).toArray meth c0 D vwCl tys z (zXX o z) zTs RX0 cX0_takeSign 4 "takeSign" := C
  have hlv : lv_has ls 4 [(0, .ref (b 3)), (1, .int x), (2, .int (Int32.ofNat at0)), (3, .int (Int32.ofNat (c + l)))] := hlv
  refine lv_iload_n C.1 C.2.1 (zda zDX0_takeSign 0 rfl rfl) rfl (lv_at hlv 2 rfl) ?_
  refine lv_if_ne C.1 C.2.1 (zda zDX0_takeSign 1 rfl rfl) (tgt := 36) (by decide) (fun h1 => ?_) (fun h1 => ?_)
  · have ha0 : at0 ≠ 0 := by
      intro q
      subst q
      exact absurd rfl h1
    refine lv_iload_n C.1 C.2.1 (zda zDX0_takeSign 36 rfl rfl) rfl (lv_at hlv 2 rfl) ?_
    refine lv_iconst C.1 C.2.1 (zda zDX0_takeSign 37 rfl rfl) rfl ?_
    refine lv_icmp_ne C.1 C.2.1 (zda zDX0_takeSign 38 rfl rfl) (tgt := 73) (by decide) (fun h38 => ?_) (fun h38 => ?_)
    · have ha2 : at0 = 2 := by
        rcases Nat.lt_or_ge at0 2 with h | h
        · exact absurd (by rw [show at0 = 1 by omega, zo11]) h38
        · omega
      subst ha2
      have hI := hI rfl
      obtain ⟨i1, i2, i3, i4⟩ := hI
      dsimp only at i1 i2 i3 i4
      refine lv_iload_n C.1 C.2.1 (zda zDX0_takeSign 73 rfl rfl) rfl (lv_at hlv 1 rfl) ?_
      refine lv_bipush C.1 C.2.1 (zda zDX0_takeSign 74 rfl rfl) rfl ?_
      refine lv_icmp_ne C.1 C.2.1 (zda zDX0_takeSign 76 rfl rfl) (tgt := 81) (by decide) (fun h76 => ?_) (fun h76 => ?_)
      · have hx59 : x.toInt ≠ 59 := fun q => h76 (Int32.toInt_inj.mp (q.trans zi59.symm))
        refine lv_iload_n C.1 C.2.1 (zda zDX0_takeSign 81 rfl rfl) rfl (lv_at hlv 1 rfl) ?_
        refine lv_bipush C.1 C.2.1 (zda zDX0_takeSign 82 rfl rfl) rfl ?_
        refine lv_icmp_lt C.1 C.2.1 (zda zDX0_takeSign 84 rfl rfl) (tgt := 113) (by decide) (fun h84 => ?_) (fun h84 => ?_)
        · rw [Int32.lt_iff_toInt_lt, zi97] at h84
          refine lv_iconst C.1 C.2.1 (zda zDX0_takeSign 113 rfl rfl) rfl ?_
          refine hret 114 ls (some _) _ _ _ _ _ (Or.inl ⟨_, .int, rfl, rfl, rfl, (zda zDX0_takeSign 114 rfl rfl)⟩) hv ?_
          refine ⟨rfl, zOtC_rf, Or.inl ⟨?_, rfl⟩⟩
          show (if x.toInt = 59 then some (0, l, 0) else if 97 ≤ x.toInt ∧ x.toInt ≤ 104 ∧ 0 < c + l ∧ c + l ≤ 8 ∧ k < 2 ^ (x.toInt - 97).toNat then some (2, l, k ||| 2 ^ (x.toInt - 97).toNat) else none) = none
          rw [if_neg hx59, if_neg (fun h => ?_)]
          omega
        · rw [Int32.lt_iff_toInt_lt, zi97] at h84
          refine lv_iload_n C.1 C.2.1 (zda zDX0_takeSign 87 rfl rfl) rfl (lv_at hlv 1 rfl) ?_
          refine lv_bipush C.1 C.2.1 (zda zDX0_takeSign 88 rfl rfl) rfl ?_
          refine lv_icmp_gt C.1 C.2.1 (zda zDX0_takeSign 90 rfl rfl) (tgt := 113) (by decide) (fun h90 => ?_) (fun h90 => ?_)
          · rw [Int32.lt_iff_toInt_lt, zi104] at h90
            refine lv_iconst C.1 C.2.1 (zda zDX0_takeSign 113 rfl rfl) rfl ?_
            refine hret 114 ls (some _) _ _ _ _ _ (Or.inl ⟨_, .int, rfl, rfl, rfl, (zda zDX0_takeSign 114 rfl rfl)⟩) hv ?_
            refine ⟨rfl, zOtC_rf, Or.inl ⟨?_, rfl⟩⟩
            show (if x.toInt = 59 then some (0, l, 0) else if 97 ≤ x.toInt ∧ x.toInt ≤ 104 ∧ 0 < c + l ∧ c + l ≤ 8 ∧ k < 2 ^ (x.toInt - 97).toNat then some (2, l, k ||| 2 ^ (x.toInt - 97).toNat) else none) = none
            rw [if_neg hx59, if_neg (fun h => ?_)]
            omega
          · rw [Int32.lt_iff_toInt_lt, zi104] at h90
            refine lv_iload_n C.1 C.2.1 (zda zDX0_takeSign 93 rfl rfl) rfl (lv_at hlv 3 rfl) ?_
            refine lv_if_le C.1 C.2.1 (zda zDX0_takeSign 94 rfl rfl) (tgt := 113) (by decide) (fun h94 => ?_) (fun h94 => ?_)
            · rw [Int32.le_iff_toInt_le, zon (by omega), Int32.toInt_zero] at h94
              omega
            · obtain ⟨q, hq⟩ : ∃ q : Nat, x.toInt = ((97 + q : Nat) : Int) := ⟨x.toInt.toNat - 97, by omega⟩
              have hq8 : q < 8 := by omega
              have hsub : x - (Int8.ofInt 97).toInt32 = Int32.ofNat q := by
                apply Int32.toInt_inj.mp
                rw [Int32.toInt_sub, zi97, hq, zon (by omega), zbm (B := 2147483648) (by decide) (by omega) (by omega)]
                omega
              have hcond : zds c x.toInt (2, l, k) = if k < 2 ^ q then some (2, l, k ||| 2 ^ q) else none := by
                show (if x.toInt = 59 then some (0, l, 0) else if 97 ≤ x.toInt ∧ x.toInt ≤ 104 ∧ 0 < c + l ∧ c + l ≤ 8 ∧ k < 2 ^ (x.toInt - 97).toNat then some (2, l, k ||| 2 ^ (x.toInt - 97).toNat) else none) = _
                rw [hq, if_neg (by omega), show (((97 + q : Nat) : Int) - 97).toNat = q by omega]
                by_cases hkq : k < 2 ^ q
                · rw [if_pos ⟨by omega, by omega, by omega, by omega, hkq⟩, if_pos hkq]
                · rw [if_neg (fun h => hkq h.2.2.2.2), if_neg hkq]
              refine lv_aload_n C.1 C.2.1 (zda zDX0_takeSign 97 rfl rfl) rfl (lv_at hlv 0 rfl) ?_
              refine lv_iload_n C.1 C.2.1 (zda zDX0_takeSign 98 rfl rfl) rfl (lv_at hlv 3 rfl) ?_
              refine lv_iconst C.1 C.2.1 (zda zDX0_takeSign 99 rfl rfl) rfl ?_
              refine lv_isub C.1 C.2.1 (zda zDX0_takeSign 100 rfl rfl) ?_
              rw [zsubN i1 (by omega)]
              refine lv_iconst C.1 C.2.1 (zda zDX0_takeSign 101 rfl rfl) rfl ?_
              refine lv_iload_n C.1 C.2.1 (zda zDX0_takeSign 102 rfl rfl) rfl (lv_at hlv 1 rfl) ?_
              refine lv_bipush C.1 C.2.1 (zda zDX0_takeSign 103 rfl rfl) rfl ?_
              refine lv_isub C.1 C.2.1 (zda zDX0_takeSign 105 rfl rfl) ?_
              rw [hsub]
              refine lv_ishl C.1 C.2.1 (zda zDX0_takeSign 106 rfl rfl) ?_
              rw [zsh_t q hq8]
              by_cases hkq : k < 2 ^ q
              · refine zV_callV C (zc_hourY (by omega) i3 i4 hq8 hkq) rfl rfl (by decide) (by decide) (show vwCl[0]? = some (RX0, TX0, 12) from rfl) zw516 zw513 zw515 zs17 zw3 (n := 2) (by decide +kernel) (zda zDX0_takeSign 107 rfl rfl) rfl zvk3 (show 3 < 126 by decide) hv hlv.1 (by show 0 ≤ 8; decide) (Nat.zero_le _) (Nat.zero_le _) (fun v f9 g9 ws H locs hp hv => ?_)
                obtain ⟨rfl, rfl, rfl⟩ := hp
                refine lv_goto C.1 C.2.1 (zda zDX0_takeSign 110 rfl rfl) (tgt := 114) (by decide) ?_
                refine hret 114 ls (some _) _ _ _ _ _ (Or.inl ⟨_, .int, rfl, rfl, rfl, (zda zDX0_takeSign 114 rfl rfl)⟩) hv ?_
                refine ⟨rfl, zOtC_u zOtC_rf (Or.inl rfl), Or.inr ⟨_, by rw [hcond, if_pos hkq], by rw [← zo22], fun _ => ⟨i1, i2, ?_, ?_⟩⟩⟩
                · show upd (g 4) (c + l - 1) _ (c + l - 1) = _
                  unfold upd
                  rw [if_pos rfl]
                · have hp8 := zone8 q hq8
                  exact Nat.or_lt_two_pow (n := 8) (by omega) (by omega)
              · refine zV_callV C (zc_hourN (by omega) i3 i4 hq8 hkq) rfl rfl (by decide) (by decide) (show vwCl[0]? = some (RX0, TX0, 12) from rfl) zw516 zw513 zw515 zs17 zw3 (n := 2) (by decide +kernel) (zda zDX0_takeSign 107 rfl rfl) rfl zvk3 (show 3 < 126 by decide) hv hlv.1 (by show 0 ≤ 8; decide) (Nat.zero_le _) (Nat.zero_le _) (fun v f9 g9 ws H locs hp hv => ?_)
                obtain ⟨rfl, rfl, rfl⟩ := hp
                refine lv_goto C.1 C.2.1 (zda zDX0_takeSign 110 rfl rfl) (tgt := 114) (by decide) ?_
                refine hret 114 ls (some _) _ _ _ _ _ (Or.inl ⟨_, .int, rfl, rfl, rfl, (zda zDX0_takeSign 114 rfl rfl)⟩) hv ?_
                exact ⟨rfl, zOtC_rf, Or.inl ⟨by rw [hcond, if_neg hkq], rfl⟩⟩
      · refine lv_iconst C.1 C.2.1 (zda zDX0_takeSign 79 rfl rfl) rfl ?_
        refine hret 80 ls (some _) _ _ _ _ _ (Or.inl ⟨_, .int, rfl, rfl, rfl, (zda zDX0_takeSign 80 rfl rfl)⟩) hv ?_
        refine ⟨rfl, zOtC_rf, Or.inr ⟨(0, l, 0), ?_, by rw [← zo00], fun h => absurd h (by show ¬ 0 = 2; decide)⟩⟩
        show (if x.toInt = 59 then some (0, l, 0) else _) = _
        rw [if_pos (by rw [h76, zi59])]
    · have ha1 : at0 = 1 := zoe (by omega) (by decide) (by rw [← zo11]; exact h38)
      subst ha1
      refine lv_iload_n C.1 C.2.1 (zda zDX0_takeSign 41 rfl rfl) rfl (lv_at hlv 1 rfl) ?_
      refine lv_bipush C.1 C.2.1 (zda zDX0_takeSign 42 rfl rfl) rfl ?_
      refine lv_icmp_lt C.1 C.2.1 (zda zDX0_takeSign 44 rfl rfl) (tgt := 71) (by decide) (fun h44 => ?_) (fun h44 => ?_)
      · rw [Int32.lt_iff_toInt_lt, zi49] at h44
        refine lv_iconst C.1 C.2.1 (zda zDX0_takeSign 71 rfl rfl) rfl ?_
        refine hret 72 ls (some _) _ _ _ _ _ (Or.inl ⟨_, .int, rfl, rfl, rfl, (zda zDX0_takeSign 72 rfl rfl)⟩) hv ?_
        refine ⟨rfl, zOtC_rf, Or.inl ⟨?_, rfl⟩⟩
        show (if 49 ≤ x.toInt ∧ x.toInt ≤ 57 ∧ c + l < 8 then some (2, l + 1, 0) else none) = none
        rw [if_neg (by omega)]
      · rw [Int32.lt_iff_toInt_lt, zi49] at h44
        refine lv_iload_n C.1 C.2.1 (zda zDX0_takeSign 47 rfl rfl) rfl (lv_at hlv 1 rfl) ?_
        refine lv_bipush C.1 C.2.1 (zda zDX0_takeSign 48 rfl rfl) rfl ?_
        refine lv_icmp_gt C.1 C.2.1 (zda zDX0_takeSign 50 rfl rfl) (tgt := 71) (by decide) (fun h50 => ?_) (fun h50 => ?_)
        · rw [Int32.lt_iff_toInt_lt, zi57'] at h50
          refine lv_iconst C.1 C.2.1 (zda zDX0_takeSign 71 rfl rfl) rfl ?_
          refine hret 72 ls (some _) _ _ _ _ _ (Or.inl ⟨_, .int, rfl, rfl, rfl, (zda zDX0_takeSign 72 rfl rfl)⟩) hv ?_
          refine ⟨rfl, zOtC_rf, Or.inl ⟨?_, rfl⟩⟩
          show (if 49 ≤ x.toInt ∧ x.toInt ≤ 57 ∧ c + l < 8 then some (2, l + 1, 0) else none) = none
          rw [if_neg (by omega)]
        · rw [Int32.lt_iff_toInt_lt, zi57'] at h50
          refine lv_iload_n C.1 C.2.1 (zda zDX0_takeSign 53 rfl rfl) rfl (lv_at hlv 3 rfl) ?_
          refine lv_bipush C.1 C.2.1 (zda zDX0_takeSign 54 rfl rfl) rfl ?_
          refine lv_icmp_ge C.1 C.2.1 (zda zDX0_takeSign 56 rfl rfl) (tgt := 71) (by decide) (fun h56 => ?_) (fun h56 => ?_)
          · rw [zi8, zol (by omega) (by omega)] at h56
            refine lv_iconst C.1 C.2.1 (zda zDX0_takeSign 71 rfl rfl) rfl ?_
            refine hret 72 ls (some _) _ _ _ _ _ (Or.inl ⟨_, .int, rfl, rfl, rfl, (zda zDX0_takeSign 72 rfl rfl)⟩) hv ?_
            refine ⟨rfl, zOtC_rf, Or.inl ⟨?_, rfl⟩⟩
            show (if 49 ≤ x.toInt ∧ x.toInt ≤ 57 ∧ c + l < 8 then some (2, l + 1, 0) else none) = none
            rw [if_neg (by omega)]
          · rw [zi8, zol (by omega) (by omega)] at h56
            have h48 := zsub48 (x := x) (by omega) (by omega)
            refine lv_aload_n C.1 C.2.1 (zda zDX0_takeSign 59 rfl rfl) rfl (lv_at hlv 0 rfl) ?_
            refine lv_iload_n C.1 C.2.1 (zda zDX0_takeSign 60 rfl rfl) rfl (lv_at hlv 3 rfl) ?_
            refine lv_iload_n C.1 C.2.1 (zda zDX0_takeSign 61 rfl rfl) rfl (lv_at hlv 1 rfl) ?_
            refine lv_bipush C.1 C.2.1 (zda zDX0_takeSign 62 rfl rfl) rfl ?_
            refine lv_isub C.1 C.2.1 (zda zDX0_takeSign 64 rfl rfl) ?_
            refine zV_callV C (zc_width (by omega) (by omega) (by omega)) rfl rfl (by decide) (by decide) (show vwCl[0]? = some (RX0, TX0, 12) from rfl) zw512 zw509 zw511 zs16 zw3 (n := 2) (by decide +kernel) (zda zDX0_takeSign 65 rfl rfl) rfl zvk3 (show 3 < 126 by decide) hv hlv.1 (by show 0 ≤ 8; decide) (Nat.zero_le _) (Nat.zero_le _) (fun v f9 g9 ws H locs hp hv => ?_)
            obtain ⟨rfl, rfl, rfl⟩ := hp
            refine lv_goto C.1 C.2.1 (zda zDX0_takeSign 68 rfl rfl) (tgt := 72) (by decide) ?_
            refine hret 72 ls (some _) _ _ _ _ _ (Or.inl ⟨_, .int, rfl, rfl, rfl, (zda zDX0_takeSign 72 rfl rfl)⟩) hv ?_
            refine ⟨rfl, zOtC_u (zOtC_u zOtC_rf (by omega)) (by omega), Or.inr ⟨(2, l + 1, 0), ?_, by rw [← zo22], fun _ => ⟨by show 0 < c + (l + 1); omega, by show c + (l + 1) ≤ 8; omega, ?_, by show 0 < 256; decide⟩⟩⟩
            · show (if 49 ≤ x.toInt ∧ x.toInt ≤ 57 ∧ c + l < 8 then some (2, l + 1, 0) else none) = _
              rw [if_pos (by omega)]
            · show upd _ (c + l) (Int32.ofInt 0) (c + (l + 1) - 1) = Int32.ofNat 0
              rw [show c + (l + 1) - 1 = c + l by omega]
              unfold upd
              rw [if_pos rfl, zo00]
  · have ha0 : at0 = 0 := zoe (by omega) (by decide) (by rw [← zo00]; exact h1)
    subst ha0
    refine lv_iload_n C.1 C.2.1 (zda zDX0_takeSign 4 rfl rfl) rfl (lv_at hlv 1 rfl) ?_
    refine lv_bipush C.1 C.2.1 (zda zDX0_takeSign 5 rfl rfl) rfl ?_
    refine lv_icmp_lt C.1 C.2.1 (zda zDX0_takeSign 7 rfl rfl) (tgt := 34) (by decide) (fun h7 => ?_) (fun h7 => ?_)
    · rw [Int32.lt_iff_toInt_lt, zi49] at h7
      refine lv_iconst C.1 C.2.1 (zda zDX0_takeSign 34 rfl rfl) rfl ?_
      refine hret 35 ls (some _) _ _ _ _ _ (Or.inl ⟨_, .int, rfl, rfl, rfl, (zda zDX0_takeSign 35 rfl rfl)⟩) hv ?_
      refine ⟨rfl, zOtC_rf, Or.inl ⟨?_, rfl⟩⟩
      show (if 49 ≤ x.toInt ∧ x.toInt ≤ 52 ∧ c + l < 8 then some (1, l, 0) else none) = none
      rw [if_neg (by omega)]
    · rw [Int32.lt_iff_toInt_lt, zi49] at h7
      refine lv_iload_n C.1 C.2.1 (zda zDX0_takeSign 10 rfl rfl) rfl (lv_at hlv 1 rfl) ?_
      refine lv_bipush C.1 C.2.1 (zda zDX0_takeSign 11 rfl rfl) rfl ?_
      refine lv_icmp_gt C.1 C.2.1 (zda zDX0_takeSign 13 rfl rfl) (tgt := 34) (by decide) (fun h13 => ?_) (fun h13 => ?_)
      · rw [Int32.lt_iff_toInt_lt, zi52'] at h13
        refine lv_iconst C.1 C.2.1 (zda zDX0_takeSign 34 rfl rfl) rfl ?_
        refine hret 35 ls (some _) _ _ _ _ _ (Or.inl ⟨_, .int, rfl, rfl, rfl, (zda zDX0_takeSign 35 rfl rfl)⟩) hv ?_
        refine ⟨rfl, zOtC_rf, Or.inl ⟨?_, rfl⟩⟩
        show (if 49 ≤ x.toInt ∧ x.toInt ≤ 52 ∧ c + l < 8 then some (1, l, 0) else none) = none
        rw [if_neg (by omega)]
      · rw [Int32.lt_iff_toInt_lt, zi52'] at h13
        refine lv_iload_n C.1 C.2.1 (zda zDX0_takeSign 16 rfl rfl) rfl (lv_at hlv 3 rfl) ?_
        refine lv_bipush C.1 C.2.1 (zda zDX0_takeSign 17 rfl rfl) rfl ?_
        refine lv_icmp_ge C.1 C.2.1 (zda zDX0_takeSign 19 rfl rfl) (tgt := 34) (by decide) (fun h19 => ?_) (fun h19 => ?_)
        · rw [zi8, zol (by omega) (by omega)] at h19
          refine lv_iconst C.1 C.2.1 (zda zDX0_takeSign 34 rfl rfl) rfl ?_
          refine hret 35 ls (some _) _ _ _ _ _ (Or.inl ⟨_, .int, rfl, rfl, rfl, (zda zDX0_takeSign 35 rfl rfl)⟩) hv ?_
          refine ⟨rfl, zOtC_rf, Or.inl ⟨?_, rfl⟩⟩
          show (if 49 ≤ x.toInt ∧ x.toInt ≤ 52 ∧ c + l < 8 then some (1, l, 0) else none) = none
          rw [if_neg (by omega)]
        · rw [zi8, zol (by omega) (by omega)] at h19
          have h48 := zsub48 (x := x) (by omega) (by omega)
          refine lv_aload_n C.1 C.2.1 (zda zDX0_takeSign 22 rfl rfl) rfl (lv_at hlv 0 rfl) ?_
          refine lv_iload_n C.1 C.2.1 (zda zDX0_takeSign 23 rfl rfl) rfl (lv_at hlv 3 rfl) ?_
          refine lv_iload_n C.1 C.2.1 (zda zDX0_takeSign 24 rfl rfl) rfl (lv_at hlv 1 rfl) ?_
          refine lv_bipush C.1 C.2.1 (zda zDX0_takeSign 25 rfl rfl) rfl ?_
          refine lv_isub C.1 C.2.1 (zda zDX0_takeSign 27 rfl rfl) ?_
          refine zV_callV C (zc_most (by omega) (by omega) (by omega)) rfl rfl (by decide) (by decide) (show vwCl[0]? = some (RX0, TX0, 12) from rfl) zw508 zw505 zw507 zs15 zw3 (n := 2) (by decide +kernel) (zda zDX0_takeSign 28 rfl rfl) rfl zvk3 (show 3 < 126 by decide) hv hlv.1 (by show 0 ≤ 8; decide) (Nat.zero_le _) (Nat.zero_le _) (fun v f9 g9 ws H locs hp hv => ?_)
          obtain ⟨rfl, rfl, rfl⟩ := hp
          refine lv_goto C.1 C.2.1 (zda zDX0_takeSign 31 rfl rfl) (tgt := 35) (by decide) ?_
          refine hret 35 ls (some _) _ _ _ _ _ (Or.inl ⟨_, .int, rfl, rfl, rfl, (zda zDX0_takeSign 35 rfl rfl)⟩) hv ?_
          refine ⟨rfl, zOtC_u zOtC_rf (by omega), Or.inr ⟨(1, l, 0), ?_, by rw [← zo11], fun h => absurd h (by show ¬ 1 = 2; decide)⟩⟩
          show (if 49 ≤ x.toInt ∧ x.toInt ≤ 52 ∧ c + l < 8 then some (1, l, 0) else none) = _
          rw [if_pos (by omega)]
set_option maxHeartbeats 8000000 in
theorem zc_read {c n : Nat} (hM : f 3 6 = .int (Int32.ofNat c)) (hy : f 1 1 = .int (Int32.ofNat n)) (hc : c ≤ 8) (hn : n ≤ 80) : zCt l0 D tys o z zyI b mX0_readRiders 10 1200 [.ref (b 3), .ref (b 1)] f g (fun v f' g' => ∃ ans c', v = some (.int ans) ∧ (f' = zuv f 3 6 (.int (Int32.ofNat c')) ∨ (f = f' ∧ c' = c)) ∧ zOtC g g' ∧ zAn c (g 2) n ans c') := by
  refine zCt_of (mr := mX0_readRiders) (by decide) (by decide) (by decide) (show 2 ≤ 7 by decide) rfl rfl ?_
  intro p e s m below meth c0 Q ls ws C hret hv hlv
  replace C : zCx p { frames := 10, cells := 0, slots := 0, locals := 1200 } s m ([.ref (b 3), .ref (b 1)] : List Value).toArray meth c0 D vwCl tys z (zXX o z) zTs RX0 cX0_readRiders 7 "readRiders" := C
  have hlv : lv_has ls 7 [(0, .ref (b 3)), (1, .ref (b 1))] := hlv
  have loop : ∀ (fuel : Nat) (g1 : Nat → Nat → Int32) (ws : va_W) (H : Heap) (locs : List Loc) (ls : Array Slot) (a l k q : Nat), min n 76 - q < fuel → q ≤ min n 76 → 0 < n → zV zyI D tys o z s.heap b f g1 ws H locs → zOtC g g1 → zD c (g 2) q = some (a, l, k) → zIn g1 c (a, l, k) → lv_has ls 7 [(5, .int (Int32.ofNat q)), (4, .int (Int32.ofNat l)), (3, .int (Int32.ofNat a)), (2, .int (Int32.ofNat (min n 76))), (0, .ref (b 3)), (1, .ref (b 1))] → W p l0 e { frames := 10, cells := 0, slots := 0, locals := 1200 } s m ([.ref (b 3), .ref (b 1)] : List Value).toArray below meth c0 H locs 0 0 Q (F0 m 27 ls []) := by
    intro fuel
    induction fuel with
    | zero => intro g1 ws H locs ls a l k q h; omega
    | succ fuel ih =>
      intro g1 ws H locs ls a l k q hfu hq hn0 hv hoC hD hI hlv
      obtain ⟨hcl, ha2⟩ := zD_le hc hD
      dsimp only at hcl ha2
      have hg2 : g1 2 = g 2 := hoC 2 (by decide) (by decide) (by decide)
      have hmin : min n 76 ≤ 76 := Nat.min_le_right _ _
      have hmin2 : min n 76 ≤ n := Nat.min_le_left _ _
      refine lv_iload C.1 C.2.1 (zda zDX0_readRiders 27 rfl rfl) (lv_at hlv 0 rfl) ?_
      refine lv_iload_n C.1 C.2.1 (zda zDX0_readRiders 29 rfl rfl) rfl (lv_at hlv 3 rfl) ?_
      refine lv_icmp_ge C.1 C.2.1 (zda zDX0_readRiders 30 rfl rfl) (tgt := 88) (by decide) (fun h30 => ?_) (fun h30 => ?_)
      · rw [zol (by omega) (by omega)] at h30
        have hqm : q = min n 76 := by omega
        refine lv_aload_n C.1 C.2.1 (zda zDX0_readRiders 88 rfl rfl) rfl (lv_at hlv 5 rfl) ?_
        refine zV_getN C (zda zDX0_readRiders 89 rfl rfl) (show vwCl[6]? = some (RX6, TX6, 2) from rfl) zinX6 (by decide) (fun U H h => zn2 h) hv zvk1 (show 1 < 126 by decide) rfl (j := 1) hy ?_
        refine lv_bipush C.1 C.2.1 (zda zDX0_readRiders 92 rfl rfl) rfl ?_
        refine lv_icmp_gt C.1 C.2.1 (zda zDX0_readRiders 94 rfl rfl) (tgt := 102) (by decide) (fun h94 => ?_) (fun h94 => ?_)
        · rw [zi76, zolt (by omega) (by omega)] at h94
          have hq7 : min n 76 = 76 := by omega
          refine lv_iconst C.1 C.2.1 (zda zDX0_readRiders 102 rfl rfl) rfl ?_
          refine lv_iload_n C.1 C.2.1 (zda zDX0_readRiders 103 rfl rfl) rfl (lv_at hlv 3 rfl) ?_
          refine lv_isub C.1 C.2.1 (zda zDX0_readRiders 104 rfl rfl) ?_
          refine hret 105 ls (some _) _ _ _ _ _ (Or.inl ⟨_, .int, rfl, rfl, rfl, (zda zDX0_readRiders 105 rfl rfl)⟩) hv ?_
          refine ⟨_, c, rfl, Or.inr ⟨rfl, rfl⟩, hoC, Or.inr (Or.inl ⟨hn0, 76, Or.inr ⟨rfl, h94, _, by rw [← hq7, ← hqm]; exact hD⟩, by rw [hq7], rfl⟩)⟩
        · rw [zi76, zolt (by omega) (by omega)] at h94
          have hqn : q = n := by omega
          refine lv_iload_n C.1 C.2.1 (zda zDX0_readRiders 97 rfl rfl) rfl (lv_at hlv 2 rfl) ?_
          refine lv_iconst C.1 C.2.1 (zda zDX0_readRiders 98 rfl rfl) rfl ?_
          refine lv_icmp_ge C.1 C.2.1 (zda zDX0_readRiders 99 rfl rfl) (tgt := 106) (by decide) (fun h99 => ?_) (fun h99 => ?_)
          · rw [zo22, zol (by omega) (by omega)] at h99
            have ha3 : a = 2 := by omega
            subst ha3
            have hcl9 := zon (show c + l < 1000 by omega)
            refine lv_aload_n C.1 C.2.1 (zda zDX0_readRiders 106 rfl rfl) rfl (lv_at hlv 4 rfl) ?_
            refine lv_dup C.1 C.2.1 (zda zDX0_readRiders 107 rfl rfl) rfl ?_
            refine zV_get C (zda zDX0_readRiders 108 rfl rfl) (show vwCl[0]? = some (RX0, TX0, 12) from rfl) zinX0 (by decide) zw255 hv zvk3 (show 3 < 126 by decide) rfl (j := 6) hM ?_
            refine lv_iload C.1 C.2.1 (zda zDX0_readRiders 111 rfl rfl) (lv_at hlv 1 rfl) ?_
            refine lv_iadd C.1 C.2.1 (zda zDX0_readRiders 113 rfl rfl) ?_
            rw [zofn (show c < 1000 by omega) (show l < 1000 by omega)]
            refine zV_puti C (zda zDX0_readRiders 114 rfl rfl) (show vwCl[0]? = some (RX0, TX0, 12) from rfl) zinX0 tyX0 tyX0_ok nmX0 (j := 6) (by decide) zw255 rfl (by decide +kernel) hv zvk3 (show 3 < 126 by decide) rfl ⟨by show (0 : Int) ≤ _; omega, by show _ ≤ (8 : Int); omega⟩ (fun ws H locs hv => ?_)
            refine lv_iload C.1 C.2.1 (zda zDX0_readRiders 117 rfl rfl) (lv_at hlv 1 rfl) ?_
            refine hret 119 ls (some _) _ _ _ _ _ (Or.inl ⟨_, .int, rfl, rfl, rfl, (zda zDX0_readRiders 119 rfl rfl)⟩) hv ?_
            refine ⟨_, c + l, rfl, Or.inl rfl, hoC, Or.inr (Or.inr ⟨hn0, by omega, l, k, by rw [← hqn]; exact hD, rfl, rfl⟩)⟩
          · rw [zo22, zol (by omega) (by omega)] at h99
            refine lv_iconst C.1 C.2.1 (zda zDX0_readRiders 102 rfl rfl) rfl ?_
            refine lv_iload_n C.1 C.2.1 (zda zDX0_readRiders 103 rfl rfl) rfl (lv_at hlv 3 rfl) ?_
            refine lv_isub C.1 C.2.1 (zda zDX0_readRiders 104 rfl rfl) ?_
            refine hret 105 ls (some _) _ _ _ _ _ (Or.inl ⟨_, .int, rfl, rfl, rfl, (zda zDX0_readRiders 105 rfl rfl)⟩) hv ?_
            refine ⟨_, c, rfl, Or.inr ⟨rfl, rfl⟩, hoC, Or.inr (Or.inl ⟨hn0, min n 76, Or.inl ⟨_, by rw [← hqm]; exact hD, by omega, by omega, Or.inr ⟨by omega, by show a < 2; omega⟩⟩, rfl, rfl⟩)⟩
      · rw [zol (by omega) (by omega)] at h30
        refine lv_aload_n C.1 C.2.1 (zda zDX0_readRiders 33 rfl rfl) rfl (lv_at hlv 4 rfl) ?_
        refine lv_aload_n C.1 C.2.1 (zda zDX0_readRiders 34 rfl rfl) rfl (lv_at hlv 5 rfl) ?_
        refine lv_iload C.1 C.2.1 (zda zDX0_readRiders 35 rfl rfl) (lv_at hlv 0 rfl) ?_
        refine zV_callN C (zc_at (q := q) hy hn (by omega)) rfl rfl (by decide) (by decide) (show vwCl[6]? = some (RX6, TX6, 2) from rfl) zw500 (fun U H h => zn41 h) zw499 zs13 zw2 (n := 1) (by decide +kernel) (zda zDX0_readRiders 37 rfl rfl) rfl zvk1 (show 1 < 126 by decide) hv hlv.1 (by show 1 ≤ 8; decide) (Nat.zero_le _) (Nat.zero_le _) (fun v f9 g9 ws H locs hp hv => ?_)
        obtain ⟨rfl, rfl, rfl⟩ := hp
        refine lv_iload_n C.1 C.2.1 (zda zDX0_readRiders 40 rfl rfl) rfl (lv_at hlv 2 rfl) ?_
        refine lv_aload_n C.1 C.2.1 (zda zDX0_readRiders 41 rfl rfl) rfl (lv_at hlv 4 rfl) ?_
        refine zV_get C (zda zDX0_readRiders 42 rfl rfl) (show vwCl[0]? = some (RX0, TX0, 12) from rfl) zinX0 (by decide) zw255 hv zvk3 (show 3 < 126 by decide) rfl (j := 6) hM ?_
        refine lv_iload C.1 C.2.1 (zda zDX0_readRiders 45 rfl rfl) (lv_at hlv 1 rfl) ?_
        refine lv_iadd C.1 C.2.1 (zda zDX0_readRiders 47 rfl rfl) ?_
        rw [zofn (show c < 1000 by omega) (show l < 1000 by omega)]
        refine zV_callV C (zc_sign (c := c) (l := l) (k := k) ha2 hcl hI) rfl rfl (by decide) (by decide) (show vwCl[0]? = some (RX0, TX0, 12) from rfl) zw504 zw501 zw503 zs14 zw3 (n := 3) (by decide +kernel) (zda zDX0_readRiders 48 rfl rfl) rfl zvk3 (show 3 < 126 by decide) hv hlv.1 (by show 0 ≤ 8; decide) (Nat.zero_le _) (Nat.zero_le _) (fun v f9 g9 ws H locs hp hv => ?_)
        obtain ⟨rfl, hoC9, hcase⟩ := hp
        have hoC9 := zOtC_t hoC hoC9
        rw [hg2] at hcase
        have hDs := zD_s hD
        rcases hcase with ⟨hno, rfl⟩ | ⟨⟨a9, l9, k9⟩, hso, rfl, hI9⟩
        · refine lv_istore C.1 C.2.1 (zda zDX0_readRiders 51 rfl rfl) hlv (lv' := [(6, .int (Int32.ofInt (-1))), (5, .int (Int32.ofNat q)), (4, .int (Int32.ofNat l)), (3, .int (Int32.ofNat a)), (2, .int (Int32.ofNat (min n 76))), (0, .ref (b 3)), (1, .ref (b 1))]) (by decide) rfl (fun ls hlv => ?_)
          refine lv_iload C.1 C.2.1 (zda zDX0_readRiders 53 rfl rfl) (lv_at hlv 0 rfl) ?_
          refine lv_iconst C.1 C.2.1 (zda zDX0_readRiders 55 rfl rfl) rfl ?_
          refine lv_icmp_ne C.1 C.2.1 (zda zDX0_readRiders 56 rfl rfl) (tgt := 64) (by decide) (fun h56 => ?_) (fun h56 => ?_)
          · exact absurd rfl h56
          · refine lv_iconst C.1 C.2.1 (zda zDX0_readRiders 59 rfl rfl) rfl ?_
            refine lv_iload C.1 C.2.1 (zda zDX0_readRiders 60 rfl rfl) (lv_at hlv 1 rfl) ?_
            refine lv_isub C.1 C.2.1 (zda zDX0_readRiders 62 rfl rfl) ?_
            refine hret 63 ls (some _) _ _ _ _ _ (Or.inl ⟨_, .int, rfl, rfl, rfl, (zda zDX0_readRiders 63 rfl rfl)⟩) hv ?_
            refine ⟨_, c, rfl, Or.inr ⟨rfl, rfl⟩, hoC9, Or.inr (Or.inl ⟨hn0, q, Or.inl ⟨_, hD, by omega, by omega, Or.inl ⟨by omega, by omega, by rw [hDs]; exact hno⟩⟩, rfl, rfl⟩)⟩
        · rw [hso] at hDs
          obtain ⟨hcl9, ha9⟩ := zD_le hc hDs
          dsimp only at hcl9 ha9
          refine lv_istore C.1 C.2.1 (zda zDX0_readRiders 51 rfl rfl) hlv (lv' := [(6, .int (Int32.ofNat a9)), (5, .int (Int32.ofNat q)), (4, .int (Int32.ofNat l)), (3, .int (Int32.ofNat a)), (2, .int (Int32.ofNat (min n 76))), (0, .ref (b 3)), (1, .ref (b 1))]) (by decide) rfl (fun ls hlv => ?_)
          refine lv_iload C.1 C.2.1 (zda zDX0_readRiders 53 rfl rfl) (lv_at hlv 0 rfl) ?_
          refine lv_iconst C.1 C.2.1 (zda zDX0_readRiders 55 rfl rfl) rfl ?_
          refine lv_icmp_ne C.1 C.2.1 (zda zDX0_readRiders 56 rfl rfl) (tgt := 64) (by decide) (fun h56 => ?_) (fun h56 => ?_)
          · refine lv_iload C.1 C.2.1 (zda zDX0_readRiders 64 rfl rfl) (lv_at hlv 2 rfl) ?_
            refine lv_iload_n C.1 C.2.1 (zda zDX0_readRiders 66 rfl rfl) rfl (lv_at hlv 3 rfl) ?_
            refine lv_iconst C.1 C.2.1 (zda zDX0_readRiders 67 rfl rfl) rfl ?_
            refine lv_icmp_ne C.1 C.2.1 (zda zDX0_readRiders 68 rfl rfl) (tgt := 75) (by decide) (fun h68 => ?_) (fun h68 => ?_)
            · have ha1 : a ≠ 1 := fun q9 => h68 (by rw [q9, zo11])
              have hl9 : l9 = l := zds_l1 ha1 hso
              subst hl9
              refine lv_iconst C.1 C.2.1 (zda zDX0_readRiders 75 rfl rfl) rfl ?_
              refine lv_iadd C.1 C.2.1 (zda zDX0_readRiders 76 rfl rfl) ?_
              rw [zaz]
              refine lv_istore C.1 C.2.1 (zda zDX0_readRiders 77 rfl rfl) hlv (lv' := [(4, .int (Int32.ofNat l9)), (6, .int (Int32.ofNat a9)), (5, .int (Int32.ofNat q)), (3, .int (Int32.ofNat a)), (2, .int (Int32.ofNat (min n 76))), (0, .ref (b 3)), (1, .ref (b 1))]) (by decide) rfl (fun ls hlv => ?_)
              refine lv_iload C.1 C.2.1 (zda zDX0_readRiders 79 rfl rfl) (lv_at hlv 1 rfl) ?_
              refine lv_istore_n C.1 C.2.1 (zda zDX0_readRiders 81 rfl rfl) rfl hlv (lv' := [(3, .int (Int32.ofNat a9)), (4, .int (Int32.ofNat l9)), (6, .int (Int32.ofNat a9)), (5, .int (Int32.ofNat q)), (2, .int (Int32.ofNat (min n 76))), (0, .ref (b 3)), (1, .ref (b 1))]) (by decide) rfl (fun ls hlv => ?_)
              refine lv_iinc C.1 C.2.1 (zda zDX0_readRiders 82 rfl rfl) hlv (k := 3) rfl rfl (by decide) (lv' := [(5, .int ((Int32.ofNat q) + Int32.ofInt 1)), (3, .int (Int32.ofNat a9)), (4, .int (Int32.ofNat l9)), (6, .int (Int32.ofNat a9)), (2, .int (Int32.ofNat (min n 76))), (0, .ref (b 3)), (1, .ref (b 1))]) rfl (fun ls hlv => ?_)
              refine lv_goto C.1 C.2.1 (zda zDX0_readRiders 85 rfl rfl) (tgt := 27) (by decide) ?_
              rw [zsuc (show q < 1000 by omega)] at hlv
              exact ih _ _ _ _ ls a9 _ k9 (q + 1) (by omega) (by omega) hn0 hv hoC9 hDs hI9 (lv_sub hlv [0, 2, 1, 4, 5, 6] rfl)
            · have ha1 : a = 1 := zoe (by omega) (by decide) (by rw [← zo11]; exact h68)
              have hl9 : l9 = l + 1 := zds_l2 (by rw [ha1] at hso; exact hso)
              subst hl9
              refine lv_iconst C.1 C.2.1 (zda zDX0_readRiders 71 rfl rfl) rfl ?_
              refine lv_goto C.1 C.2.1 (zda zDX0_readRiders 72 rfl rfl) (tgt := 76) (by decide) ?_
              refine lv_iadd C.1 C.2.1 (zda zDX0_readRiders 76 rfl rfl) ?_
              rw [zsuc (show l < 1000 by omega)]
              refine lv_istore C.1 C.2.1 (zda zDX0_readRiders 77 rfl rfl) hlv (lv' := [(4, .int (Int32.ofNat (l + 1))), (6, .int (Int32.ofNat a9)), (5, .int (Int32.ofNat q)), (3, .int (Int32.ofNat a)), (2, .int (Int32.ofNat (min n 76))), (0, .ref (b 3)), (1, .ref (b 1))]) (by decide) rfl (fun ls hlv => ?_)
              refine lv_iload C.1 C.2.1 (zda zDX0_readRiders 79 rfl rfl) (lv_at hlv 1 rfl) ?_
              refine lv_istore_n C.1 C.2.1 (zda zDX0_readRiders 81 rfl rfl) rfl hlv (lv' := [(3, .int (Int32.ofNat a9)), (4, .int (Int32.ofNat (l + 1))), (6, .int (Int32.ofNat a9)), (5, .int (Int32.ofNat q)), (2, .int (Int32.ofNat (min n 76))), (0, .ref (b 3)), (1, .ref (b 1))]) (by decide) rfl (fun ls hlv => ?_)
              refine lv_iinc C.1 C.2.1 (zda zDX0_readRiders 82 rfl rfl) hlv (k := 3) rfl rfl (by decide) (lv' := [(5, .int ((Int32.ofNat q) + Int32.ofInt 1)), (3, .int (Int32.ofNat a9)), (4, .int (Int32.ofNat (l + 1))), (6, .int (Int32.ofNat a9)), (2, .int (Int32.ofNat (min n 76))), (0, .ref (b 3)), (1, .ref (b 1))]) rfl (fun ls hlv => ?_)
              refine lv_goto C.1 C.2.1 (zda zDX0_readRiders 85 rfl rfl) (tgt := 27) (by decide) ?_
              rw [zsuc (show q < 1000 by omega)] at hlv
              exact ih _ _ _ _ ls a9 _ k9 (q + 1) (by omega) (by omega) hn0 hv hoC9 hDs hI9 (lv_sub hlv [0, 2, 1, 4, 5, 6] rfl)
          · exact absurd h56 (zne1 (by omega))
  refine lv_aload_n C.1 C.2.1 (zda zDX0_readRiders 0 rfl rfl) rfl (lv_at hlv 1 rfl) ?_
  refine zV_getN C (zda zDX0_readRiders 1 rfl rfl) (show vwCl[6]? = some (RX6, TX6, 2) from rfl) zinX6 (by decide) (fun U H h => zn2 h) hv zvk1 (show 1 < 126 by decide) rfl (j := 1) hy ?_
  refine lv_if_ne C.1 C.2.1 (zda zDX0_readRiders 4 rfl rfl) (tgt := 9) (by decide) (fun h4 => ?_) (fun h4 => ?_)
  · refine lv_aload_n C.1 C.2.1 (zda zDX0_readRiders 9 rfl rfl) rfl (lv_at hlv 1 rfl) ?_
    refine zV_getN C (zda zDX0_readRiders 10 rfl rfl) (show vwCl[6]? = some (RX6, TX6, 2) from rfl) zinX6 (by decide) (fun U H h => zn2 h) hv zvk1 (show 1 < 126 by decide) rfl (j := 1) hy ?_
    refine lv_bipush C.1 C.2.1 (zda zDX0_readRiders 13 rfl rfl) rfl ?_
    rw [zi76]
    refine va_mmin C.1 C.2.1 (C.2.2.1.trans hlv.1.symm) C.2.2.2.1 (C.2.2.2.2.1 _ zw496) (C.2.2.2.2.1 _ zw149) (C.2.2.2.2.1 _ zw9) (C.2.2.2.2.1 _ zw150) (by decide) (by show 0 + 13 ≤ 1200; decide) (Nat.zero_le _) (Nat.zero_le _) (zda zDX0_readRiders 15 rfl rfl) ?_
    have hmn : (if Int32.ofNat 76 < Int32.ofNat n then Int32.ofNat 76 else Int32.ofNat n) = Int32.ofNat (min n 76) := by
      by_cases h : 76 < n
      · rw [if_pos ((zolt (by decide) (by omega)).mpr h), show min n 76 = 76 by omega]
      · rw [if_neg (fun q => h ((zolt (by decide) (by omega)).mp q)), show min n 76 = n by omega]
    rw [hmn]
    refine lv_istore_n C.1 C.2.1 (zda zDX0_readRiders 18 rfl rfl) rfl hlv (lv' := [(2, .int (Int32.ofNat (min n 76))), (0, .ref (b 3)), (1, .ref (b 1))]) (by decide) rfl (fun ls hlv => ?_)
    refine lv_iconst C.1 C.2.1 (zda zDX0_readRiders 19 rfl rfl) rfl ?_
    rw [zo00]
    refine lv_istore_n C.1 C.2.1 (zda zDX0_readRiders 20 rfl rfl) rfl hlv (lv' := [(3, .int (Int32.ofNat 0)), (2, .int (Int32.ofNat (min n 76))), (0, .ref (b 3)), (1, .ref (b 1))]) (by decide) rfl (fun ls hlv => ?_)
    refine lv_iconst C.1 C.2.1 (zda zDX0_readRiders 21 rfl rfl) rfl ?_
    rw [zo00]
    refine lv_istore C.1 C.2.1 (zda zDX0_readRiders 22 rfl rfl) hlv (lv' := [(4, .int (Int32.ofNat 0)), (3, .int (Int32.ofNat 0)), (2, .int (Int32.ofNat (min n 76))), (0, .ref (b 3)), (1, .ref (b 1))]) (by decide) rfl (fun ls hlv => ?_)
    refine lv_iconst C.1 C.2.1 (zda zDX0_readRiders 24 rfl rfl) rfl ?_
    rw [zo00]
    refine lv_istore C.1 C.2.1 (zda zDX0_readRiders 25 rfl rfl) hlv (lv' := [(5, .int (Int32.ofNat 0)), (4, .int (Int32.ofNat 0)), (3, .int (Int32.ofNat 0)), (2, .int (Int32.ofNat (min n 76))), (0, .ref (b 3)), (1, .ref (b 1))]) (by decide) rfl (fun ls hlv => ?_)
    have hn0 : 0 < n := by
      rcases Nat.eq_zero_or_pos n with h | h
      · subst h
        exact absurd rfl h4
      · exact h
    exact loop (min n 76 + 1) g _ _ _ ls 0 0 0 0 (by omega) (by omega) hn0 hv zOtC_rf rfl (fun h => absurd h (by show ¬ 0 = 2; decide)) hlv
  · have hn0 : n = 0 := by
      have h9 := zon (show n < 1000 by omega)
      rw [h4] at h9
      have h8 : (0 : Int32).toInt = 0 := by decide
      rw [h8] at h9
      omega
    refine lv_iconst C.1 C.2.1 (zda zDX0_readRiders 7 rfl rfl) rfl ?_
    rw [zo00]
    exact hret 8 ls (some _) _ _ _ _ _ (Or.inl ⟨_, .int, rfl, rfl, rfl, (zda zDX0_readRiders 8 rfl rfl)⟩) hv ⟨_, c, rfl, Or.inr ⟨rfl, rfl⟩, zOtC_rf, Or.inl ⟨hn0, rfl, rfl⟩⟩
theorem zc_empty : zCt l0 D tys o z zyI b mX6_empty 2 300 [.ref (b 1)] f g (fun v f' g' => v = none ∧ f' = zuv f 1 1 (.int (Int32.ofNat 0)) ∧ g = g') := by
  refine zCt_of (mr := mX6_empty) (by decide) (by decide) (by decide) (show 1 ≤ 1 by decide) rfl rfl ?_
  intro p e s m below meth c0 Q ls ws C hret hv hlv
  replace C : zCx p { frames := 2, cells := 0, slots := 0, locals := 300 } s m ([.ref (b 1)] : List Value).toArray meth c0 D vwCl tys z (zXX o z) zTs RX6 cX6_empty 1 "empty" := C
  have hlv : lv_has ls 1 [(0, .ref (b 1))] := hlv
  refine lv_aload_n C.1 C.2.1 (zda zDX6_empty 0 rfl rfl) rfl (lv_at hlv 0 rfl) ?_
  refine lv_iconst C.1 C.2.1 (zda zDX6_empty 1 rfl rfl) rfl ?_
  refine zV_puti C (zda zDX6_empty 2 rfl rfl) (show vwCl[6]? = some (RX6, TX6, 2) from rfl) zinX6 tyX6 tyX6_ok nmX6 (j := 1) (by decide) zw38 rfl (by decide +kernel) hv zvk1 (show 1 < 126 by decide) rfl ⟨by show (0 : Int) ≤ _; decide, by show _ ≤ (80 : Int); decide⟩ (fun ws H locs hv => ?_)
  exact hret 5 ls none _ _ _ _ _ ⟨rfl, (zda zDX6_empty 5 rfl rfl)⟩ hv (⟨rfl, by rw [← zo00], rfl⟩)
end ZCLS
