/-! rota(), with values -/
def zRv (c : Nat) (x : Int32) : Prop := x.toInt = 45 ∨ (48 ≤ x.toInt ∧ x.toInt < 48 + (c : Int))
def zRf (c : Nat) (S : Nat → Int32) (n h w : Nat) : Prop := w ≤ n ∧ w ≤ h ∧ (∀ p, p < w → zRv c (S p)) ∧ ((w < n ∧ w < h ∧ ¬ zRv c (S w)) ∨ ((n ≤ w ∨ h ≤ w) ∧ n ≠ h))
def zqcn (S : Nat → Int32) : Nat → Nat
  | 0 => 0
  | p + 1 => zqcn S p + (if (S p).toInt = 45 then 0 else 1)
theorem zqcn_le {S : Nat → Int32} : ∀ p, zqcn S p ≤ p
  | 0 => Nat.le_refl _
  | p + 1 => by
    have := zqcn_le (S := S) p
    show zqcn S p + (if (S p).toInt = 45 then 0 else 1) ≤ p + 1
    split <;> omega
theorem zqcn_cg {S S' : Nat → Int32} {N : Nat} (h : ∀ i, i < N → S i = S' i) : ∀ p, p ≤ N → zqcn S p = zqcn S' p
  | 0, _ => rfl
  | p + 1, hp => by
    show zqcn S p + (if (S p).toInt = 45 then 0 else 1) = zqcn S' p + (if (S' p).toInt = 45 then 0 else 1)
    rw [zqcn_cg h p (by omega), h p (by omega)]
theorem zRf_one {c n h w w' : Nat} {S : Nat → Int32} (a : zRf c S n h w) (a' : zRf c S n h w') : w = w' := by
  have key : ∀ {w w'}, zRf c S n h w → zRf c S n h w' → ¬ w < w' := by
    intro w w' a a' hl
    obtain ⟨h1, h2, h3, h4⟩ := a
    obtain ⟨h1', h2', h3', h4'⟩ := a'
    rcases h4 with ⟨-, -, h5⟩ | ⟨h5, -⟩
    · exact h5 (h3' w hl)
    · omega
  rcases Nat.lt_trichotomy w w' with r | r | r
  · exact absurd r (key a a')
  · exact r
  · exact absurd r (key a' a)
/-- what rota() answers -/
def zRo (c : Nat) (S : Nat → Int32) (n h : Nat) (x : Int32) : Prop := (∃ w, zRf c S n h w ∧ x = Int32.ofInt (-1) - Int32.ofNat w) ∨ (n = h ∧ (∀ p, p < h → zRv c (S p)) ∧ x = Int32.ofNat (zqcn S h))
theorem zRo_one {c n h : Nat} {S : Nat → Int32} {x x' : Int32} (a : zRo c S n h x) (a' : zRo c S n h x') : x = x' := by
  have no : ∀ {w}, zRf c S n h w → n = h → (∀ p, p < h → zRv c (S p)) → False := by
    intro w k1 k2 k3
    obtain ⟨h1, h2, h3, h4⟩ := k1
    rcases h4 with ⟨h5, h6, h7⟩ | ⟨-, h5⟩
    · exact h7 (k3 w h6)
    · exact h5 k2
  rcases a with ⟨w, h1, h2⟩ | ⟨h1, h2, h3⟩
  · rcases a' with ⟨w', k1, k2⟩ | ⟨k1, k2, k3⟩
    · rw [h2, k2, zRf_one h1 k1]
    · exact (no h1 k1 k2).elim
  · rcases a' with ⟨w', k1, k2⟩ | ⟨k1, k2, k3⟩
    · exact (no k1 h1 h2).elim
    · rw [h3, k3]
theorem zRo_cg {c n h : Nat} {S S' : Nat → Int32} {x : Int32} (hS : ∀ i, i < 80 → S i = S' i) (hn : n ≤ 80) (hh : h ≤ 8) (a : zRo c S n h x) : zRo c S' n h x := by
  rcases a with ⟨w, ⟨h1, h2, h3, h4⟩, h5⟩ | ⟨h1, h2, h3⟩
  · refine Or.inl ⟨w, ⟨h1, h2, fun p hp => by rw [← hS p (by omega)]; exact h3 p hp, ?_⟩, h5⟩
    rcases h4 with ⟨k1, k2, k3⟩ | k1
    · exact Or.inl ⟨k1, k2, by rw [← hS w (by omega)]; exact k3⟩
    · exact Or.inr k1
  · exact Or.inr ⟨h1, fun p hp => by rw [← hS p (by omega)]; exact h2 p hp, by rw [← zqcn_cg (N := 80) hS h (by omega)]; exact h3⟩
theorem zi45 : ((Int8.ofInt 45).toInt32).toInt = 45 := by decide
theorem zqs48 {x : Int32} (h1 : -1 ≤ x.toInt) (h2 : x.toInt ≤ 255) : (x - (Int8.ofInt 48).toInt32).toInt = x.toInt - 48 := by
  rw [Int32.toInt_sub, zi48, zbm (B := 2147483648) (by decide) (by omega) (by omega)]
section ZROT
variable {l0 : Launch} {D : va_G} {tys : List (ClassId × FieldType)} {o : zO} {z : Nat} {b : Nat → Nat} {f : Nat → Nat → Value} {g : Nat → Nat → Int32}
theorem zc_digT {x : Int32} (hx : 48 ≤ x.toInt ∧ x.toInt ≤ 57) : zCt l0 D tys o z zyI b mX7_isDigit 2 300 [.int x] f g (fun v f' g' => v = some (.int (Int32.ofInt 1)) ∧ f = f' ∧ g = g') := by
  refine zCt_of (mr := mX7_isDigit) (by decide) (by decide) (by decide) (show 1 ≤ 1 by decide) rfl rfl ?_
  intro p e s m below meth c0 Q ls ws C hret hv hlv
  replace C : zCx p { frames := 2, cells := 0, slots := 0, locals := 300 } s m ([.int x] : List Value).toArray meth c0 D vwCl tys z (zXX o z) zTs RX7 cX7_isDigit 1 "isDigit" := C
  have hlv : lv_has ls 1 [(0, .int x)] := hlv
  refine lv_iload_n C.1 C.2.1 (zda zDX7_isDigit 0 rfl rfl) rfl (lv_at hlv 0 rfl) ?_
  refine lv_bipush C.1 C.2.1 (zda zDX7_isDigit 1 rfl rfl) rfl ?_
  refine lv_icmp_lt C.1 C.2.1 (zda zDX7_isDigit 3 rfl rfl) (tgt := 16) (by decide) (fun h3 => ?_) (fun h3 => ?_)
  · rw [Int32.lt_iff_toInt_lt, zi48] at h3
    omega
  · rw [Int32.lt_iff_toInt_lt, zi48] at h3
    refine lv_iload_n C.1 C.2.1 (zda zDX7_isDigit 6 rfl rfl) rfl (lv_at hlv 0 rfl) ?_
    refine lv_bipush C.1 C.2.1 (zda zDX7_isDigit 7 rfl rfl) rfl ?_
    refine lv_icmp_gt C.1 C.2.1 (zda zDX7_isDigit 9 rfl rfl) (tgt := 16) (by decide) (fun h9 => ?_) (fun h9 => ?_)
    · rw [Int32.lt_iff_toInt_lt, zi57'] at h9
      omega
    · rw [Int32.lt_iff_toInt_lt, zi57'] at h9
      refine lv_iconst C.1 C.2.1 (zda zDX7_isDigit 12 rfl rfl) rfl ?_
      refine lv_goto C.1 C.2.1 (zda zDX7_isDigit 13 rfl rfl) (tgt := 17) (by decide) ?_
      exact hret 17 ls (some _) _ _ _ _ _ (Or.inl ⟨_, .boolean, rfl, rfl, rfl, (zda zDX7_isDigit 17 rfl rfl)⟩) hv (⟨rfl, rfl, rfl⟩)
theorem zc_digF {x : Int32} (hx : ¬ (48 ≤ x.toInt ∧ x.toInt ≤ 57)) : zCt l0 D tys o z zyI b mX7_isDigit 2 300 [.int x] f g (fun v f' g' => v = some (.int (Int32.ofInt 0)) ∧ f = f' ∧ g = g') := by
  refine zCt_of (mr := mX7_isDigit) (by decide) (by decide) (by decide) (show 1 ≤ 1 by decide) rfl rfl ?_
  intro p e s m below meth c0 Q ls ws C hret hv hlv
  replace C : zCx p { frames := 2, cells := 0, slots := 0, locals := 300 } s m ([.int x] : List Value).toArray meth c0 D vwCl tys z (zXX o z) zTs RX7 cX7_isDigit 1 "isDigit" := C
  have hlv : lv_has ls 1 [(0, .int x)] := hlv
  refine lv_iload_n C.1 C.2.1 (zda zDX7_isDigit 0 rfl rfl) rfl (lv_at hlv 0 rfl) ?_
  refine lv_bipush C.1 C.2.1 (zda zDX7_isDigit 1 rfl rfl) rfl ?_
  refine lv_icmp_lt C.1 C.2.1 (zda zDX7_isDigit 3 rfl rfl) (tgt := 16) (by decide) (fun h3 => ?_) (fun h3 => ?_)
  · rw [Int32.lt_iff_toInt_lt, zi48] at h3
    refine lv_iconst C.1 C.2.1 (zda zDX7_isDigit 16 rfl rfl) rfl ?_
    exact hret 17 ls (some _) _ _ _ _ _ (Or.inl ⟨_, .boolean, rfl, rfl, rfl, (zda zDX7_isDigit 17 rfl rfl)⟩) hv (⟨rfl, rfl, rfl⟩)
  · rw [Int32.lt_iff_toInt_lt, zi48] at h3
    refine lv_iload_n C.1 C.2.1 (zda zDX7_isDigit 6 rfl rfl) rfl (lv_at hlv 0 rfl) ?_
    refine lv_bipush C.1 C.2.1 (zda zDX7_isDigit 7 rfl rfl) rfl ?_
    refine lv_icmp_gt C.1 C.2.1 (zda zDX7_isDigit 9 rfl rfl) (tgt := 16) (by decide) (fun h9 => ?_) (fun h9 => ?_)
    · rw [Int32.lt_iff_toInt_lt, zi57'] at h9
      refine lv_iconst C.1 C.2.1 (zda zDX7_isDigit 16 rfl rfl) rfl ?_
      exact hret 17 ls (some _) _ _ _ _ _ (Or.inl ⟨_, .boolean, rfl, rfl, rfl, (zda zDX7_isDigit 17 rfl rfl)⟩) hv (⟨rfl, rfl, rfl⟩)
    · rw [Int32.lt_iff_toInt_lt, zi57'] at h9
      omega
set_option maxHeartbeats 8000000 in
theorem zc_rf {c n h : Nat} (hM : f 3 6 = .int (Int32.ofNat c)) (hH : f 3 7 = .int (Int32.ofNat h)) (hy : f 1 1 = .int (Int32.ofNat n)) (hc : c ≤ 8) (hh : h ≤ 8) (hn : n ≤ 80) : zCt l0 D tys o z zyI b mX7_rotaFault 8 900 [.ref (b 0)] f g (fun v f' g' => ((∃ w, zRf c (g 2) n h w ∧ v = some (.int (Int32.ofNat w))) ∨ (n = h ∧ (∀ p, p < h → zRv c (g 2 p)) ∧ v = some (.int (Int32.ofInt (-1))))) ∧ f = f' ∧ g = g') := by
  refine zCt_of (mr := mX7_rotaFault) (by decide) (by decide) (by decide) (show 1 ≤ 4 by decide) rfl rfl ?_
  intro p e s m below meth c0 Q ls ws C hret hv hlv
  replace C : zCx p { frames := 8, cells := 0, slots := 0, locals := 900 } s m ([.ref (b 0)] : List Value).toArray meth c0 D vwCl tys z (zXX o z) zTs RX7 cX7_rotaFault 4 "rotaFault" := C
  have hlv : lv_has ls 4 [(0, .ref (b 0))] := hlv
  have loop : ∀ (fuel q : Nat) (ws : va_W) (H : Heap) (locs : List Loc) (ls : Array Slot) (lv9 : List (Nat × Value)), min n h - q < fuel → q ≤ min n h → zV zyI D tys o z s.heap b f g ws H locs → (∀ p, p < q → zRv c (g 2 p)) → lv_has ls 4 [(2, .int (Int32.ofNat q)), (1, .int (Int32.ofNat (min n h))), (0, .ref (b 0))] → W p l0 e { frames := 8, cells := 0, slots := 0, locals := 900 } s m ([.ref (b 0)] : List Value).toArray below meth c0 H locs 0 0 Q (F0 m 20 ls []) := by
    intro fuel
    induction fuel with
    | zero => intro q ws H locs ls lv9 hf; omega
    | succ fuel ih =>
      intro q ws H locs ls lv9 hfu hq hv hval hlv
      have hm1 : min n h ≤ n := Nat.min_le_left _ _
      have hm2 : min n h ≤ h := Nat.min_le_right _ _
      refine lv_iload_n C.1 C.2.1 (zda zDX7_rotaFault 20 rfl rfl) rfl (lv_at hlv 0 rfl) ?_
      refine lv_iload_n C.1 C.2.1 (zda zDX7_rotaFault 21 rfl rfl) rfl (lv_at hlv 1 rfl) ?_
      refine lv_icmp_ge C.1 C.2.1 (zda zDX7_rotaFault 22 rfl rfl) (tgt := 69) (by decide) (fun h22 => ?_) (fun h22 => ?_)
      · rw [zol (by omega) (by omega)] at h22
        have hqm : q = min n h := by omega
        refine lv_aload_n C.1 C.2.1 (zda zDX7_rotaFault 69 rfl rfl) rfl (lv_at hlv 2 rfl) ?_
        refine zV_get C (zda zDX7_rotaFault 70 rfl rfl) (show vwCl[7]? = some (RX7, TX7, 16) from rfl) zinX7 (by decide) zw423 hv zvk0 (show 0 < 126 by decide) rfl (j := 0) (zV_ref hv zvk0 (show 0 < 126 by decide) rfl) ?_
        refine zV_getN C (zda zDX7_rotaFault 73 rfl rfl) (show vwCl[6]? = some (RX6, TX6, 2) from rfl) zinX6 (by decide) (fun U H h => zn3 h) hv zvk1 (show 1 < 126 by decide) rfl (j := 1) hy ?_
        refine lv_aload_n C.1 C.2.1 (zda zDX7_rotaFault 76 rfl rfl) rfl (lv_at hlv 2 rfl) ?_
        refine zV_get C (zda zDX7_rotaFault 77 rfl rfl) (show vwCl[7]? = some (RX7, TX7, 16) from rfl) zinX7 (by decide) zw424 hv zvk0 (show 0 < 126 by decide) rfl (j := 1) (zV_ref hv zvk0 (show 0 < 126 by decide) rfl) ?_
        refine zV_getN C (zda zDX7_rotaFault 80 rfl rfl) (show vwCl[0]? = some (RX0, TX0, 12) from rfl) zinX0 (by decide) (fun U H h => zn11 h) hv zvk3 (show 3 < 126 by decide) rfl (j := 7) hH ?_
        refine lv_icmp_ne C.1 C.2.1 (zda zDX7_rotaFault 83 rfl rfl) (tgt := 90) (by decide) (fun h83 => ?_) (fun h83 => ?_)
        · have hnh : n ≠ h := fun q9 => h83 (by rw [q9])
          refine lv_iload_n C.1 C.2.1 (zda zDX7_rotaFault 90 rfl rfl) rfl (lv_at hlv 1 rfl) ?_
          exact hret 91 ls (some _) _ _ _ _ _ (Or.inl ⟨_, .int, rfl, rfl, rfl, (zda zDX7_rotaFault 91 rfl rfl)⟩) hv (⟨Or.inl ⟨min n h, ⟨by omega, by omega, by rw [← hqm]; exact hval, Or.inr ⟨by omega, hnh⟩⟩, rfl⟩, rfl, rfl⟩)
        · have hnh : n = h := zoe (by omega) (by omega) h83
          refine lv_iconst C.1 C.2.1 (zda zDX7_rotaFault 86 rfl rfl) rfl ?_
          refine lv_goto C.1 C.2.1 (zda zDX7_rotaFault 87 rfl rfl) (tgt := 91) (by decide) ?_
          exact hret 91 ls (some _) _ _ _ _ _ (Or.inl ⟨_, .int, rfl, rfl, rfl, (zda zDX7_rotaFault 91 rfl rfl)⟩) hv (⟨Or.inr ⟨hnh, fun p hp => hval p (by omega), rfl⟩, rfl, rfl⟩)
      · rw [zol (by omega) (by omega)] at h22
        refine lv_aload_n C.1 C.2.1 (zda zDX7_rotaFault 25 rfl rfl) rfl (lv_at hlv 2 rfl) ?_
        refine zV_get C (zda zDX7_rotaFault 26 rfl rfl) (show vwCl[7]? = some (RX7, TX7, 16) from rfl) zinX7 (by decide) zw423 hv zvk0 (show 0 < 126 by decide) rfl (j := 0) (zV_ref hv zvk0 (show 0 < 126 by decide) rfl) ?_
        refine lv_iload_n C.1 C.2.1 (zda zDX7_rotaFault 29 rfl rfl) rfl (lv_at hlv 0 rfl) ?_
        refine zV_callN C (zc_at (q := q) hy hn (by omega)) rfl rfl (by decide) (by decide) (show vwCl[6]? = some (RX6, TX6, 2) from rfl) zw500 (fun U H h => zn51 h) zw499 zs13 zw2 (n := 1) (by decide +kernel) (zda zDX7_rotaFault 30 rfl rfl) rfl zvk1 (show 1 < 126 by decide) hv hlv.1 (by show 0 ≤ 8; decide) (Nat.zero_le _) (Nat.zero_le _) (fun v f9 g9 ws H locs hp hv => ?_)
        obtain ⟨rfl, rfl, rfl⟩ := hp
        refine lv_istore_n C.1 C.2.1 (zda zDX7_rotaFault 33 rfl rfl) rfl hlv (lv' := [(3, .int (g 2 q)), (2, .int (Int32.ofNat q)), (1, .int (Int32.ofNat (min n h))), (0, .ref (b 0))]) (by decide) rfl (fun ls hlv => ?_)
        refine lv_iload_n C.1 C.2.1 (zda zDX7_rotaFault 34 rfl rfl) rfl (lv_at hlv 0 rfl) ?_
        refine lv_bipush C.1 C.2.1 (zda zDX7_rotaFault 35 rfl rfl) rfl ?_
        refine lv_icmp_eq C.1 C.2.1 (zda zDX7_rotaFault 37 rfl rfl) (tgt := 63) (by decide) (fun h37 => ?_) (fun h37 => ?_)
        · have hx45 : (g 2 q).toInt = 45 := by rw [h37, zi45]
          refine lv_iinc C.1 C.2.1 (zda zDX7_rotaFault 63 rfl rfl) hlv (k := 1) rfl rfl (by decide) (lv' := [(2, .int ((Int32.ofNat q) + Int32.ofInt 1)), (3, .int (g 2 q)), (1, .int (Int32.ofNat (min n h))), (0, .ref (b 0))]) rfl (fun ls hlv => ?_)
          refine lv_goto C.1 C.2.1 (zda zDX7_rotaFault 66 rfl rfl) (tgt := 20) (by decide) ?_
          rw [zsuc (show q < 1000 by omega)] at hlv
          refine ih (q + 1) ws H locs ls [] (by omega) (by omega) hv (fun p hp => ?_) (lv_sub hlv [0, 2, 3] rfl)
          rcases Nat.lt_or_ge p q with h9 | h9
          · exact hval p h9
          · rw [show p = q by omega]
            exact Or.inl hx45
        · have hx45 : (g 2 q).toInt ≠ 45 := fun q9 => h37 (Int32.toInt_inj.mp (q9.trans zi45.symm))
          have hrg := zV_rn0 hv zvk2 (show 2 < 126 by decide) zvl2 (show q < 80 by omega)
          refine lv_iload_n C.1 C.2.1 (zda zDX7_rotaFault 40 rfl rfl) rfl (lv_at hlv 0 rfl) ?_
          by_cases hd : 48 ≤ (g 2 q).toInt ∧ (g 2 q).toInt ≤ 57
          · refine zV_callS C (zc_digT hd) rfl rfl (by decide) (by decide) zw191 zw610 zw190 zw1 (n := 1) (by decide +kernel) (zda zDX7_rotaFault 41 rfl rfl) rfl hv hlv.1 (by show 0 ≤ 8; decide) (Nat.zero_le _) (Nat.zero_le _) (fun v f9 g9 ws H locs hp hv => ?_)
            obtain ⟨rfl, rfl, rfl⟩ := hp
            refine lv_if_eq C.1 C.2.1 (zda zDX7_rotaFault 44 rfl rfl) (tgt := 61) (by decide) (fun h44 => ?_) (fun h44 => ?_)
            · exact absurd h44 (by decide)
            · have hs48 := zqs48 (x := g 2 q) (by omega) (by omega)
              refine lv_aload_n C.1 C.2.1 (zda zDX7_rotaFault 47 rfl rfl) rfl (lv_at hlv 3 rfl) ?_
              refine zV_get C (zda zDX7_rotaFault 48 rfl rfl) (show vwCl[7]? = some (RX7, TX7, 16) from rfl) zinX7 (by decide) zw424 hv zvk0 (show 0 < 126 by decide) rfl (j := 1) (zV_ref hv zvk0 (show 0 < 126 by decide) rfl) ?_
              refine lv_iload_n C.1 C.2.1 (zda zDX7_rotaFault 51 rfl rfl) rfl (lv_at hlv 0 rfl) ?_
              refine lv_bipush C.1 C.2.1 (zda zDX7_rotaFault 52 rfl rfl) rfl ?_
              refine lv_isub C.1 C.2.1 (zda zDX7_rotaFault 54 rfl rfl) ?_
              by_cases hcc : (g 2 q).toInt < 48 + (c : Int)
              · refine zV_callN C (zc_hasT hM hc (by rw [hs48]; omega)) rfl rfl (by decide) (by decide) (show vwCl[0]? = some (RX0, TX0, 12) from rfl) zw550 (fun U H h => zn46 h) zw549 zs23 zw3 (n := 1) (by decide +kernel) (zda zDX7_rotaFault 55 rfl rfl) rfl zvk3 (show 3 < 126 by decide) hv hlv.1 (by show 0 ≤ 8; decide) (Nat.zero_le _) (Nat.zero_le _) (fun v f9 g9 ws H locs hp hv => ?_)
                obtain ⟨rfl, rfl, rfl⟩ := hp
                refine lv_if_ne C.1 C.2.1 (zda zDX7_rotaFault 58 rfl rfl) (tgt := 63) (by decide) (fun h58 => ?_) (fun h58 => ?_)
                · refine lv_iinc C.1 C.2.1 (zda zDX7_rotaFault 63 rfl rfl) hlv (k := 1) rfl rfl (by decide) (lv' := [(2, .int ((Int32.ofNat q) + Int32.ofInt 1)), (3, .int (g 2 q)), (1, .int (Int32.ofNat (min n h))), (0, .ref (b 0))]) rfl (fun ls hlv => ?_)
                  refine lv_goto C.1 C.2.1 (zda zDX7_rotaFault 66 rfl rfl) (tgt := 20) (by decide) ?_
                  rw [zsuc (show q < 1000 by omega)] at hlv
                  refine ih (q + 1) ws H locs ls [] (by omega) (by omega) hv (fun p hp => ?_) (lv_sub hlv [0, 2, 3] rfl)
                  rcases Nat.lt_or_ge p q with h9 | h9
                  · exact hval p h9
                  · rw [show p = q by omega]
                    exact Or.inr ⟨by omega, by omega⟩
                · exact absurd h58 (by decide)
              · refine zV_callN C (zc_hasF hM hc (by rw [hs48]; omega)) rfl rfl (by decide) (by decide) (show vwCl[0]? = some (RX0, TX0, 12) from rfl) zw550 (fun U H h => zn46 h) zw549 zs23 zw3 (n := 1) (by decide +kernel) (zda zDX7_rotaFault 55 rfl rfl) rfl zvk3 (show 3 < 126 by decide) hv hlv.1 (by show 0 ≤ 8; decide) (Nat.zero_le _) (Nat.zero_le _) (fun v f9 g9 ws H locs hp hv => ?_)
                obtain ⟨rfl, rfl, rfl⟩ := hp
                refine lv_if_ne C.1 C.2.1 (zda zDX7_rotaFault 58 rfl rfl) (tgt := 63) (by decide) (fun h58 => ?_) (fun h58 => ?_)
                · exact absurd rfl h58
                · refine lv_iload_n C.1 C.2.1 (zda zDX7_rotaFault 61 rfl rfl) rfl (lv_at hlv 1 rfl) ?_
                  refine hret 62 ls (some _) _ _ _ _ _ (Or.inl ⟨_, .int, rfl, rfl, rfl, (zda zDX7_rotaFault 62 rfl rfl)⟩) hv ⟨Or.inl ⟨q, ⟨by omega, by omega, hval, Or.inl ⟨by omega, by omega, fun hz => ?_⟩⟩, rfl⟩, rfl, rfl⟩
                  rcases hz with hz | hz <;> omega
          · refine zV_callS C (zc_digF hd) rfl rfl (by decide) (by decide) zw191 zw610 zw190 zw1 (n := 1) (by decide +kernel) (zda zDX7_rotaFault 41 rfl rfl) rfl hv hlv.1 (by show 0 ≤ 8; decide) (Nat.zero_le _) (Nat.zero_le _) (fun v f9 g9 ws H locs hp hv => ?_)
            obtain ⟨rfl, rfl, rfl⟩ := hp
            refine lv_if_eq C.1 C.2.1 (zda zDX7_rotaFault 44 rfl rfl) (tgt := 61) (by decide) (fun h44 => ?_) (fun h44 => ?_)
            · refine lv_iload_n C.1 C.2.1 (zda zDX7_rotaFault 61 rfl rfl) rfl (lv_at hlv 1 rfl) ?_
              refine hret 62 ls (some _) _ _ _ _ _ (Or.inl ⟨_, .int, rfl, rfl, rfl, (zda zDX7_rotaFault 62 rfl rfl)⟩) hv ⟨Or.inl ⟨q, ⟨by omega, by omega, hval, Or.inl ⟨by omega, by omega, fun hz => ?_⟩⟩, rfl⟩, rfl, rfl⟩
              rcases hz with hz | hz <;> omega
            · exact absurd rfl h44
  refine lv_aload_n C.1 C.2.1 (zda zDX7_rotaFault 0 rfl rfl) rfl (lv_at hlv 0 rfl) ?_
  refine zV_get C (zda zDX7_rotaFault 1 rfl rfl) (show vwCl[7]? = some (RX7, TX7, 16) from rfl) zinX7 (by decide) zw423 hv zvk0 (show 0 < 126 by decide) rfl (j := 0) (zV_ref hv zvk0 (show 0 < 126 by decide) rfl) ?_
  refine zV_getN C (zda zDX7_rotaFault 4 rfl rfl) (show vwCl[6]? = some (RX6, TX6, 2) from rfl) zinX6 (by decide) (fun U H h => zn3 h) hv zvk1 (show 1 < 126 by decide) rfl (j := 1) hy ?_
  refine lv_aload_n C.1 C.2.1 (zda zDX7_rotaFault 7 rfl rfl) rfl (lv_at hlv 0 rfl) ?_
  refine zV_get C (zda zDX7_rotaFault 8 rfl rfl) (show vwCl[7]? = some (RX7, TX7, 16) from rfl) zinX7 (by decide) zw424 hv zvk0 (show 0 < 126 by decide) rfl (j := 1) (zV_ref hv zvk0 (show 0 < 126 by decide) rfl) ?_
  refine zV_getN C (zda zDX7_rotaFault 11 rfl rfl) (show vwCl[0]? = some (RX0, TX0, 12) from rfl) zinX0 (by decide) (fun U H h => zn11 h) hv zvk3 (show 3 < 126 by decide) rfl (j := 7) hH ?_
  refine va_mmin C.1 C.2.1 (C.2.2.1.trans hlv.1.symm) C.2.2.2.1 (C.2.2.2.2.1 _ zw582) (C.2.2.2.2.1 _ zw149) (C.2.2.2.2.1 _ zw9) (C.2.2.2.2.1 _ zw150) (by decide) (by show 0 + 13 ≤ 900; decide) (Nat.zero_le _) (Nat.zero_le _) (zda zDX7_rotaFault 14 rfl rfl) ?_
  have hmn : (if Int32.ofNat h < Int32.ofNat n then Int32.ofNat h else Int32.ofNat n) = Int32.ofNat (min n h) := by
    by_cases hk : h < n
    · rw [if_pos ((zolt (by omega) (by omega)).mpr hk), show min n h = h by omega]
    · rw [if_neg (fun q => hk ((zolt (by omega) (by omega)).mp q)), show min n h = n by omega]
  rw [hmn]
  refine lv_istore_n C.1 C.2.1 (zda zDX7_rotaFault 17 rfl rfl) rfl hlv (lv' := [(1, .int (Int32.ofNat (min n h))), (0, .ref (b 0))]) (by decide) rfl (fun ls hlv => ?_)
  refine lv_iconst C.1 C.2.1 (zda zDX7_rotaFault 18 rfl rfl) rfl ?_
  rw [zo00]
  refine lv_istore_n C.1 C.2.1 (zda zDX7_rotaFault 19 rfl rfl) rfl hlv (lv' := [(2, .int (Int32.ofNat 0)), (1, .int (Int32.ofNat (min n h))), (0, .ref (b 0))]) (by decide) rfl (fun ls hlv => ?_)
  exact loop (min n h + 1) 0 _ _ _ ls [] (by omega) (by omega) hv (fun p hp => absurd hp (Nat.not_lt_zero p)) hlv
set_option maxHeartbeats 8000000 in
theorem zc_tr {n h : Nat} {c : Nat} (hH : f 3 7 = .int (Int32.ofNat h)) (hy : f 1 1 = .int (Int32.ofNat n)) (hh : h ≤ 8) (hn : n ≤ 80) (hnh : n = h) (hc : c ≤ 8) (hval : ∀ p, p < h → zRv c (g 2 p)) : zCt l0 D tys o z zyI b mX7_takeRota 8 900 [.ref (b 0)] f g (fun v f' g' => v = some (.int (Int32.ofNat (zqcn (g 2) h))) ∧ f = f' ∧ (∀ k, k ≠ 16 → g' k = g k)) := by
  refine zCt_of (mr := mX7_takeRota) (by decide) (by decide) (by decide) (show 1 ≤ 4 by decide) rfl rfl ?_
  intro p e s m below meth c0 Q ls ws C hret hv hlv
  replace C : zCx p { frames := 8, cells := 0, slots := 0, locals := 900 } s m ([.ref (b 0)] : List Value).toArray meth c0 D vwCl tys z (zXX o z) zTs RX7 cX7_takeRota 4 "takeRota" := C
  have hlv : lv_has ls 4 [(0, .ref (b 0))] := hlv
  have loop : ∀ (fuel q : Nat) (g1 : Nat → Nat → Int32) (ws : va_W) (H : Heap) (locs : List Loc) (ls : Array Slot), 8 - q < fuel → q ≤ 8 → zV zyI D tys o z s.heap b f g1 ws H locs → (∀ k, k ≠ 16 → g1 k = g k) → lv_has ls 4 [(2, .int (Int32.ofNat q)), (1, .int (Int32.ofNat (zqcn (g 2) (min q h)))), (0, .ref (b 0))] → W p l0 e { frames := 8, cells := 0, slots := 0, locals := 900 } s m ([.ref (b 0)] : List Value).toArray below meth c0 H locs 0 0 Q (F0 m 4 ls []) := by
    intro fuel
    induction fuel with
    | zero => intro q g1 ws H locs ls hf; omega
    | succ fuel ih =>
      intro q g1 ws H locs ls hfu hq hv hoG hlv
      have hcl := zqcn_le (S := g 2) (min q h)
      have hm1 : min q h ≤ q := Nat.min_le_left _ _
      have hm2 : min q h ≤ h := Nat.min_le_right _ _
      refine lv_iload_n C.1 C.2.1 (zda zDX7_takeRota 4 rfl rfl) rfl (lv_at hlv 0 rfl) ?_
      refine lv_bipush C.1 C.2.1 (zda zDX7_takeRota 5 rfl rfl) rfl ?_
      refine lv_icmp_ge C.1 C.2.1 (zda zDX7_takeRota 7 rfl rfl) (tgt := 78) (by decide) (fun h7 => ?_) (fun h7 => ?_)
      · rw [zi8, zol (by omega) (by omega)] at h7
        refine lv_iload_n C.1 C.2.1 (zda zDX7_takeRota 78 rfl rfl) rfl (lv_at hlv 1 rfl) ?_
        exact hret 79 ls (some _) _ _ _ _ _ (Or.inl ⟨_, .int, rfl, rfl, rfl, (zda zDX7_takeRota 79 rfl rfl)⟩) hv (⟨by rw [show min q h = h by omega], rfl, hoG⟩)
      · rw [zi8, zol (by omega) (by omega)] at h7
        refine lv_iload_n C.1 C.2.1 (zda zDX7_takeRota 10 rfl rfl) rfl (lv_at hlv 0 rfl) ?_
        refine lv_aload_n C.1 C.2.1 (zda zDX7_takeRota 11 rfl rfl) rfl (lv_at hlv 2 rfl) ?_
        refine zV_get C (zda zDX7_takeRota 12 rfl rfl) (show vwCl[7]? = some (RX7, TX7, 16) from rfl) zinX7 (by decide) zw424 hv zvk0 (show 0 < 126 by decide) rfl (j := 1) (zV_ref hv zvk0 (show 0 < 126 by decide) rfl) ?_
        refine zV_getN C (zda zDX7_takeRota 15 rfl rfl) (show vwCl[0]? = some (RX0, TX0, 12) from rfl) zinX0 (by decide) (fun U H h => zn11 h) hv zvk3 (show 3 < 126 by decide) rfl (j := 7) hH ?_
        refine lv_icmp_ge C.1 C.2.1 (zda zDX7_takeRota 18 rfl rfl) (tgt := 32) (by decide) (fun h18 => ?_) (fun h18 => ?_)
        · rw [zol (by omega) (by omega)] at h18
          have hcn : Int32.ofNat (zqcn (g 2) (min q h)) = Int32.ofNat (zqcn (g 2) (min (q + 1) h)) := by rw [show min (q + 1) h = min q h by omega]
          refine lv_bipush C.1 C.2.1 (zda zDX7_takeRota 32 rfl rfl) rfl ?_
          refine lv_istore_n C.1 C.2.1 (zda zDX7_takeRota 34 rfl rfl) rfl hlv (lv' := [(3, .int ((Int8.ofInt 45).toInt32)), (2, .int (Int32.ofNat q)), (1, .int (Int32.ofNat (zqcn (g 2) (min q h)))), (0, .ref (b 0))]) (by decide) rfl (fun ls hlv => ?_)
          refine lv_aload_n C.1 C.2.1 (zda zDX7_takeRota 35 rfl rfl) rfl (lv_at hlv 3 rfl) ?_
          refine zV_get C (zda zDX7_takeRota 36 rfl rfl) (show vwCl[7]? = some (RX7, TX7, 16) from rfl) zinX7 (by decide) zw425 hv zvk0 (show 0 < 126 by decide) rfl (j := 2) (zV_ref hv zvk0 (show 0 < 126 by decide) rfl) ?_
          refine zV_getN C (zda zDX7_takeRota 39 rfl rfl) (show vwCl[5]? = some (RX5, TX5, 6) from rfl) zinX5 (by decide) (fun U H h => zn17 h) hv zvk15 (show 15 < 126 by decide) rfl (j := 0) (zV_ref hv zvk15 (show 15 < 126 by decide) rfl) ?_
          refine lv_iload_n C.1 C.2.1 (zda zDX7_takeRota 42 rfl rfl) rfl (lv_at hlv 1 rfl) ?_
          refine lv_iload_n C.1 C.2.1 (zda zDX7_takeRota 43 rfl rfl) rfl (lv_at hlv 0 rfl) ?_
          refine lv_bipush C.1 C.2.1 (zda zDX7_takeRota 44 rfl rfl) rfl ?_
          refine lv_icmp_ne C.1 C.2.1 (zda zDX7_takeRota 46 rfl rfl) (tgt := 53) (by decide) (fun h46 => ?_) (fun h46 => ?_)
          · exact absurd rfl h46
          · refine lv_iconst C.1 C.2.1 (zda zDX7_takeRota 49 rfl rfl) rfl ?_
            refine lv_goto C.1 C.2.1 (zda zDX7_takeRota 50 rfl rfl) (tgt := 57) (by decide) ?_
            refine zV_st0 C (zda zDX7_takeRota 57 rfl rfl) hv zvk16 (show 16 < 126 by decide) (i := q) (zon (by omega)) (by omega) (zelr_ok zve16 (by omega) (by show (-49 : Int) ≤ _; decide) (by show _ ≤ (207 : Int); decide)) (fun ws H locs hv => ?_)
            refine lv_iload_n C.1 C.2.1 (zda zDX7_takeRota 58 rfl rfl) rfl (lv_at hlv 2 rfl) ?_
            refine lv_iload_n C.1 C.2.1 (zda zDX7_takeRota 59 rfl rfl) rfl (lv_at hlv 0 rfl) ?_
            refine lv_bipush C.1 C.2.1 (zda zDX7_takeRota 60 rfl rfl) rfl ?_
            refine lv_icmp_ne C.1 C.2.1 (zda zDX7_takeRota 62 rfl rfl) (tgt := 69) (by decide) (fun h62 => ?_) (fun h62 => ?_)
            · exact absurd rfl h62
            · refine lv_iconst C.1 C.2.1 (zda zDX7_takeRota 65 rfl rfl) rfl ?_
              refine lv_goto C.1 C.2.1 (zda zDX7_takeRota 66 rfl rfl) (tgt := 70) (by decide) ?_
              refine lv_iadd C.1 C.2.1 (zda zDX7_takeRota 70 rfl rfl) ?_
              rw [zaz]
              refine lv_istore_n C.1 C.2.1 (zda zDX7_takeRota 71 rfl rfl) rfl hlv (lv' := [(1, .int (Int32.ofNat (zqcn (g 2) (min q h)))), (3, .int ((Int8.ofInt 45).toInt32)), (2, .int (Int32.ofNat q)), (0, .ref (b 0))]) (by decide) rfl (fun ls hlv => ?_)
              refine lv_iinc C.1 C.2.1 (zda zDX7_takeRota 72 rfl rfl) hlv (k := 2) rfl rfl (by decide) (lv' := [(2, .int ((Int32.ofNat q) + Int32.ofInt 1)), (1, .int (Int32.ofNat (zqcn (g 2) (min q h)))), (3, .int ((Int8.ofInt 45).toInt32)), (0, .ref (b 0))]) rfl (fun ls hlv => ?_)
              refine lv_goto C.1 C.2.1 (zda zDX7_takeRota 75 rfl rfl) (tgt := 4) (by decide) ?_
              rw [zsuc (show q < 1000 by omega)] at hlv
              refine ih (q + 1) _ ws H locs ls (by omega) (by omega) hv (fun k hk => ?_) ?_
              · rw [← hoG k hk]
                unfold zua
                rw [zbq_f hk]
              · rw [hcn] at hlv
                exact lv_sub hlv [0, 1, 3] rfl
        · rw [zol (by omega) (by omega)] at h18
          have hg2 : g1 2 = g 2 := hoG 2 (by decide)
          have hrg := zV_rn0 hv zvk2 (show 2 < 126 by decide) zvl2 (show q < 80 by omega)
          have hvq := hval q (by omega)
          rw [← hg2] at hvq
          refine lv_aload_n C.1 C.2.1 (zda zDX7_takeRota 21 rfl rfl) rfl (lv_at hlv 2 rfl) ?_
          refine zV_get C (zda zDX7_takeRota 22 rfl rfl) (show vwCl[7]? = some (RX7, TX7, 16) from rfl) zinX7 (by decide) zw423 hv zvk0 (show 0 < 126 by decide) rfl (j := 0) (zV_ref hv zvk0 (show 0 < 126 by decide) rfl) ?_
          refine lv_iload_n C.1 C.2.1 (zda zDX7_takeRota 25 rfl rfl) rfl (lv_at hlv 0 rfl) ?_
          refine zV_callN C (zc_at (q := q) hy hn (by omega)) rfl rfl (by decide) (by decide) (show vwCl[6]? = some (RX6, TX6, 2) from rfl) zw500 (fun U H h => zn51 h) zw499 zs13 zw2 (n := 1) (by decide +kernel) (zda zDX7_takeRota 26 rfl rfl) rfl zvk1 (show 1 < 126 by decide) hv hlv.1 (by show 0 ≤ 8; decide) (Nat.zero_le _) (Nat.zero_le _) (fun v f9 g9 ws H locs hp hv => ?_)
          obtain ⟨rfl, rfl, rfl⟩ := hp
          refine lv_goto C.1 C.2.1 (zda zDX7_takeRota 29 rfl rfl) (tgt := 34) (by decide) ?_
          by_cases h45 : (g1 2 q).toInt = 45
          · have hx45 : g1 2 q = (Int8.ofInt 45).toInt32 := Int32.toInt_inj.mp (h45.trans zi45.symm)
            have hcn : Int32.ofNat (zqcn (g 2) (min q h)) = Int32.ofNat (zqcn (g 2) (min (q + 1) h)) := by
              rw [show min (q + 1) h = q + 1 by omega, show min q h = q by omega]
              show _ = Int32.ofNat (zqcn (g 2) q + (if (g 2 q).toInt = 45 then 0 else 1))
              rw [← hg2, if_pos h45]
              rfl
            refine lv_istore_n C.1 C.2.1 (zda zDX7_takeRota 34 rfl rfl) rfl hlv (lv' := [(3, .int (g1 2 q)), (2, .int (Int32.ofNat q)), (1, .int (Int32.ofNat (zqcn (g 2) (min q h)))), (0, .ref (b 0))]) (by decide) rfl (fun ls hlv => ?_)
            refine lv_aload_n C.1 C.2.1 (zda zDX7_takeRota 35 rfl rfl) rfl (lv_at hlv 3 rfl) ?_
            refine zV_get C (zda zDX7_takeRota 36 rfl rfl) (show vwCl[7]? = some (RX7, TX7, 16) from rfl) zinX7 (by decide) zw425 hv zvk0 (show 0 < 126 by decide) rfl (j := 2) (zV_ref hv zvk0 (show 0 < 126 by decide) rfl) ?_
            refine zV_getN C (zda zDX7_takeRota 39 rfl rfl) (show vwCl[5]? = some (RX5, TX5, 6) from rfl) zinX5 (by decide) (fun U H h => zn17 h) hv zvk15 (show 15 < 126 by decide) rfl (j := 0) (zV_ref hv zvk15 (show 15 < 126 by decide) rfl) ?_
            refine lv_iload_n C.1 C.2.1 (zda zDX7_takeRota 42 rfl rfl) rfl (lv_at hlv 1 rfl) ?_
            refine lv_iload_n C.1 C.2.1 (zda zDX7_takeRota 43 rfl rfl) rfl (lv_at hlv 0 rfl) ?_
            refine lv_bipush C.1 C.2.1 (zda zDX7_takeRota 44 rfl rfl) rfl ?_
            refine lv_icmp_ne C.1 C.2.1 (zda zDX7_takeRota 46 rfl rfl) (tgt := 53) (by decide) (fun h46 => ?_) (fun h46 => ?_)
            · exact absurd hx45 h46
            · refine lv_iconst C.1 C.2.1 (zda zDX7_takeRota 49 rfl rfl) rfl ?_
              refine lv_goto C.1 C.2.1 (zda zDX7_takeRota 50 rfl rfl) (tgt := 57) (by decide) ?_
              refine zV_st0 C (zda zDX7_takeRota 57 rfl rfl) hv zvk16 (show 16 < 126 by decide) (i := q) (zon (by omega)) (by omega) (zelr_ok zve16 (by omega) (by show (-49 : Int) ≤ _; decide) (by show _ ≤ (207 : Int); decide)) (fun ws H locs hv => ?_)
              refine lv_iload_n C.1 C.2.1 (zda zDX7_takeRota 58 rfl rfl) rfl (lv_at hlv 2 rfl) ?_
              refine lv_iload_n C.1 C.2.1 (zda zDX7_takeRota 59 rfl rfl) rfl (lv_at hlv 0 rfl) ?_
              refine lv_bipush C.1 C.2.1 (zda zDX7_takeRota 60 rfl rfl) rfl ?_
              refine lv_icmp_ne C.1 C.2.1 (zda zDX7_takeRota 62 rfl rfl) (tgt := 69) (by decide) (fun h62 => ?_) (fun h62 => ?_)
              · exact absurd hx45 h62
              · refine lv_iconst C.1 C.2.1 (zda zDX7_takeRota 65 rfl rfl) rfl ?_
                refine lv_goto C.1 C.2.1 (zda zDX7_takeRota 66 rfl rfl) (tgt := 70) (by decide) ?_
                refine lv_iadd C.1 C.2.1 (zda zDX7_takeRota 70 rfl rfl) ?_
                rw [zaz]
                refine lv_istore_n C.1 C.2.1 (zda zDX7_takeRota 71 rfl rfl) rfl hlv (lv' := [(1, .int (Int32.ofNat (zqcn (g 2) (min q h)))), (3, .int (g1 2 q)), (2, .int (Int32.ofNat q)), (0, .ref (b 0))]) (by decide) rfl (fun ls hlv => ?_)
                refine lv_iinc C.1 C.2.1 (zda zDX7_takeRota 72 rfl rfl) hlv (k := 2) rfl rfl (by decide) (lv' := [(2, .int ((Int32.ofNat q) + Int32.ofInt 1)), (1, .int (Int32.ofNat (zqcn (g 2) (min q h)))), (3, .int (g1 2 q)), (0, .ref (b 0))]) rfl (fun ls hlv => ?_)
                refine lv_goto C.1 C.2.1 (zda zDX7_takeRota 75 rfl rfl) (tgt := 4) (by decide) ?_
                rw [zsuc (show q < 1000 by omega)] at hlv
                refine ih (q + 1) _ ws H locs ls (by omega) (by omega) hv (fun k hk => ?_) ?_
                · rw [← hoG k hk]
                  unfold zua
                  rw [zbq_f hk]
                · rw [hcn] at hlv
                  exact lv_sub hlv [0, 1, 3] rfl
          · have hx45 : g1 2 q ≠ (Int8.ofInt 45).toInt32 := fun q9 => h45 (by rw [q9, zi45])
            have hvq2 : 48 ≤ (g1 2 q).toInt ∧ (g1 2 q).toInt < 48 + (c : Int) := hvq.resolve_left h45
            have hcn : Int32.ofNat (zqcn (g 2) (min q h) + 1) = Int32.ofNat (zqcn (g 2) (min (q + 1) h)) := by
              rw [show min (q + 1) h = q + 1 by omega, show min q h = q by omega]
              show _ = Int32.ofNat (zqcn (g 2) q + (if (g 2 q).toInt = 45 then 0 else 1))
              rw [← hg2, if_neg h45]
            refine lv_istore_n C.1 C.2.1 (zda zDX7_takeRota 34 rfl rfl) rfl hlv (lv' := [(3, .int (g1 2 q)), (2, .int (Int32.ofNat q)), (1, .int (Int32.ofNat (zqcn (g 2) (min q h)))), (0, .ref (b 0))]) (by decide) rfl (fun ls hlv => ?_)
            refine lv_aload_n C.1 C.2.1 (zda zDX7_takeRota 35 rfl rfl) rfl (lv_at hlv 3 rfl) ?_
            refine zV_get C (zda zDX7_takeRota 36 rfl rfl) (show vwCl[7]? = some (RX7, TX7, 16) from rfl) zinX7 (by decide) zw425 hv zvk0 (show 0 < 126 by decide) rfl (j := 2) (zV_ref hv zvk0 (show 0 < 126 by decide) rfl) ?_
            refine zV_getN C (zda zDX7_takeRota 39 rfl rfl) (show vwCl[5]? = some (RX5, TX5, 6) from rfl) zinX5 (by decide) (fun U H h => zn17 h) hv zvk15 (show 15 < 126 by decide) rfl (j := 0) (zV_ref hv zvk15 (show 15 < 126 by decide) rfl) ?_
            refine lv_iload_n C.1 C.2.1 (zda zDX7_takeRota 42 rfl rfl) rfl (lv_at hlv 1 rfl) ?_
            refine lv_iload_n C.1 C.2.1 (zda zDX7_takeRota 43 rfl rfl) rfl (lv_at hlv 0 rfl) ?_
            refine lv_bipush C.1 C.2.1 (zda zDX7_takeRota 44 rfl rfl) rfl ?_
            refine lv_icmp_ne C.1 C.2.1 (zda zDX7_takeRota 46 rfl rfl) (tgt := 53) (by decide) (fun h46 => ?_) (fun h46 => ?_)
            · have hs48 := zqs48 (x := g1 2 q) (by omega) (by omega)
              refine lv_iload_n C.1 C.2.1 (zda zDX7_takeRota 53 rfl rfl) rfl (lv_at hlv 0 rfl) ?_
              refine lv_bipush C.1 C.2.1 (zda zDX7_takeRota 54 rfl rfl) rfl ?_
              refine lv_isub C.1 C.2.1 (zda zDX7_takeRota 56 rfl rfl) ?_
              refine zV_st0 C (zda zDX7_takeRota 57 rfl rfl) hv zvk16 (show 16 < 126 by decide) (i := q) (zon (by omega)) (by omega) (zelr_ok zve16 (by omega) (by show (-49 : Int) ≤ _; (rw [hs48]; omega)) (by show _ ≤ (207 : Int); (rw [hs48]; omega))) (fun ws H locs hv => ?_)
              refine lv_iload_n C.1 C.2.1 (zda zDX7_takeRota 58 rfl rfl) rfl (lv_at hlv 2 rfl) ?_
              refine lv_iload_n C.1 C.2.1 (zda zDX7_takeRota 59 rfl rfl) rfl (lv_at hlv 0 rfl) ?_
              refine lv_bipush C.1 C.2.1 (zda zDX7_takeRota 60 rfl rfl) rfl ?_
              refine lv_icmp_ne C.1 C.2.1 (zda zDX7_takeRota 62 rfl rfl) (tgt := 69) (by decide) (fun h62 => ?_) (fun h62 => ?_)
              · refine lv_iconst C.1 C.2.1 (zda zDX7_takeRota 69 rfl rfl) rfl ?_
                refine lv_iadd C.1 C.2.1 (zda zDX7_takeRota 70 rfl rfl) ?_
                rw [zsuc (by omega)]
                refine lv_istore_n C.1 C.2.1 (zda zDX7_takeRota 71 rfl rfl) rfl hlv (lv' := [(1, .int (Int32.ofNat (zqcn (g 2) (min q h) + 1))), (3, .int (g1 2 q)), (2, .int (Int32.ofNat q)), (0, .ref (b 0))]) (by decide) rfl (fun ls hlv => ?_)
                refine lv_iinc C.1 C.2.1 (zda zDX7_takeRota 72 rfl rfl) hlv (k := 2) rfl rfl (by decide) (lv' := [(2, .int ((Int32.ofNat q) + Int32.ofInt 1)), (1, .int (Int32.ofNat (zqcn (g 2) (min q h) + 1))), (3, .int (g1 2 q)), (0, .ref (b 0))]) rfl (fun ls hlv => ?_)
                refine lv_goto C.1 C.2.1 (zda zDX7_takeRota 75 rfl rfl) (tgt := 4) (by decide) ?_
                rw [zsuc (show q < 1000 by omega)] at hlv
                refine ih (q + 1) _ ws H locs ls (by omega) (by omega) hv (fun k hk => ?_) ?_
                · rw [← hoG k hk]
                  unfold zua
                  rw [zbq_f hk]
                · rw [hcn] at hlv
                  exact lv_sub hlv [0, 1, 3] rfl
              · exact absurd h62 hx45
            · exact absurd h46 hx45
  refine lv_iconst C.1 C.2.1 (zda zDX7_takeRota 0 rfl rfl) rfl ?_
  rw [zo00]
  refine lv_istore_n C.1 C.2.1 (zda zDX7_takeRota 1 rfl rfl) rfl hlv (lv' := [(1, .int (Int32.ofNat 0)), (0, .ref (b 0))]) (by decide) rfl (fun ls hlv => ?_)
  refine lv_iconst C.1 C.2.1 (zda zDX7_takeRota 2 rfl rfl) rfl ?_
  rw [zo00]
  refine lv_istore_n C.1 C.2.1 (zda zDX7_takeRota 3 rfl rfl) rfl hlv (lv' := [(2, .int (Int32.ofNat 0)), (1, .int (Int32.ofNat 0)), (0, .ref (b 0))]) (by decide) rfl (fun ls hlv => ?_)
  exact loop 9 0 g _ _ _ ls (by omega) (by omega) hv (fun k hk => rfl) (by rw [show min 0 h = 0 by omega]; exact hlv)
end ZROT
theorem zua_s {g : Nat → Nat → Int32} {k i : Nat} {v : Int32} : zua g k i v k i = v := by
  unfold zua upd
  rw [zbq_t]
  dsimp only
  rw [if_pos rfl]
section ZROT2
variable {l0 : Launch} {D : va_G} {tys : List (ClassId × FieldType)} {o : zO} {z : Nat} {b : Nat → Nat} {f : Nat → Nat → Value} {g : Nat → Nat → Int32}
def zc_cp_m : Nat := 20815864389328798164978910924381867633406527808792739298012062272077285070605578828630565768417591264852858642306381036902474573335803871972543185418696145015449649665355118950465988932254251660479445601082555278210308571649821510213745642327125609852491284169443407750516926103361372125255478804303250553683552571882315293047080758698201190344013898231634226773782156391815381591785472
set_option maxRecDepth 100000 in
theorem zc_cp_t : zrunw zprog2 (zovW []) 100000 zcut0 10 2000 mX5_copy.2.2.2.2.2.2 (zkin none (zyI.1, zyI.2.1, zc_cp_m)) 0 (zargs 0 [.inr (.inr (.inl 18)), .inr (.inr (.inl 15))], [], (zyI.1, zyI.2.1, 0), 0, 0) = true := by decide +kernel
theorem zc_cp_2 (E : zEnv tys) : zCt l0 D tys o z zyI b mX5_copy 10 2000 [.ref (b 18), .ref (b 15)] f g (fun v f' g' => v = none ∧ (∀ k j, zbit zc_cp_m k j = false → f' k j = f k j) ∧ ∀ k, zbit zc_cp_m k 0 = false → g' k = g k) := by
  have hM : zMet l0 D vwCl tys o z (zXX o z) zTs mX5_copy 10 2000 zyI [.inr (.inr (.inl 18)), .inr (.inr (.inl 15))] (zkin none (zyI.1, zyI.2.1, zc_cp_m)) := zMet_run (fun g => zovW_ok (fun d h => absurd h List.not_mem_nil)) zXX_ok (fun g => zprog2_ok (o := zwith o g) E) (show zget zprog2 85 = some mX5_copy from rfl) (by decide) (by decide) (show 2 ≤ 2 by decide) (show 2 ≤ 700 by decide) zc_cp_t
  refine zCt_mono (zCt_met hM (fun ws hw hb => ?_)) (fun v f' g' h => ?_)
  · have had : ∀ k, k < 126 → zad ws k = some (b k) := by
      intro k hk
      obtain ⟨c, a, e, h1, h2, h3⟩ := hw.2 k (show k < 126 from hk)
      rw [zad_of h2, ← hb, zwB_of h2]
    exact ⟨⟨b 18, had 18 (by decide), rfl⟩, ⟨b 15, had 15 (by decide), rfl⟩, trivial⟩
  · obtain ⟨⟨ad, h1⟩, h2, h3⟩ := h
    refine ⟨?_, h2, h3⟩
    cases v with
    | none => rfl
    | some w => exact (show False from h1).elim
theorem zc_cp (E : zEnv tys) : zCt l0 D tys o z zyI b mX5_copy 10 2000 [.ref (b 18), .ref (b 15)] f g (fun v f' g' => v = none ∧ (∀ k j, zbit zc_cp_m k j = false → f' k j = f k j) ∧ ∀ k, zbit zc_cp_m k 0 = false → g' k = g k) := zc_cp_2 E
def zc_pu_m : Nat := 166380747905596319295701719160345042594972204355080822907348098061555361828782271440593002825838474269424099969718757213384879877696853551629587538537096274983541046598843135536519031128262582823212949686527465628690952494886406547256138609347274880169823483340478147903286902584327721151332754695437983432683541857149505394105172131087370938839251255811479748981568461536344290092373746848879913270175069741963122249267075802253110787148422818468323029595676291518504524909274016304559162864174581206693210394302245468825551130338654063870728175762700879956991080816304118302366733246519451936746565161580978681243225905749613404681377918967357193922821929660997824379400719423240259540715668585246499853371163079921303257168193324667537474580249299545241674718485021795211797830381688439367673484027191795914880782664489476612759249486521830124277484955212677767487925163413473566196242161637506178810580809270971465018017956933619594869370320722578524119630458449644677155745705704946710002508911324692055053429978511385087549569309142659738384525731413640205801581035996113415897244705452266810736276867184562595616218244867729070666274166003505605385761245223295385600000
set_option maxRecDepth 100000 in
theorem zc_pu_t : zrunw zprog2 (zovW []) 100000 zcut0 10 2000 m2X2_push.2.2.2.2.2.2 (zkin none (zyI.1, zyI.2.1, zc_pu_m)) 0 (zargs 0 [.inr (.inr (.inl 24)), .inr (.inr (.inl 18))], [], (zyI.1, zyI.2.1, 0), 0, 0) = true := by decide +kernel
theorem zc_pu_2 (E : zEnv tys) : zCt l0 D tys o z zyI b m2X2_push 10 2000 [.ref (b 24), .ref (b 18)] f g (fun v f' g' => v = none ∧ (∀ k j, zbit zc_pu_m k j = false → f' k j = f k j) ∧ ∀ k, zbit zc_pu_m k 0 = false → g' k = g k) := by
  have hM : zMet l0 D vwCl tys o z (zXX o z) zTs m2X2_push 10 2000 zyI [.inr (.inr (.inl 24)), .inr (.inr (.inl 18))] (zkin none (zyI.1, zyI.2.1, zc_pu_m)) := zMet_run (fun g => zovW_ok (fun d h => absurd h List.not_mem_nil)) zXX_ok (fun g => zprog2_ok (o := zwith o g) E) (show zget zprog2 42 = some m2X2_push from rfl) (by decide) (by decide) (show 2 ≤ 2 by decide) (show 2 ≤ 700 by decide) zc_pu_t
  refine zCt_mono (zCt_met hM (fun ws hw hb => ?_)) (fun v f' g' h => ?_)
  · have had : ∀ k, k < 126 → zad ws k = some (b k) := by
      intro k hk
      obtain ⟨c, a, e, h1, h2, h3⟩ := hw.2 k (show k < 126 from hk)
      rw [zad_of h2, ← hb, zwB_of h2]
    exact ⟨⟨b 24, had 24 (by decide), rfl⟩, ⟨b 18, had 18 (by decide), rfl⟩, trivial⟩
  · obtain ⟨⟨ad, h1⟩, h2, h3⟩ := h
    refine ⟨?_, h2, h3⟩
    cases v with
    | none => rfl
    | some w => exact (show False from h1).elim
theorem zc_pu (E : zEnv tys) : zCt l0 D tys o z zyI b mX2_push 10 2000 [.ref (b 24), .ref (b 18)] f g (fun v f' g' => v = none ∧ (∀ k j, zbit zc_pu_m k j = false → f' k j = f k j) ∧ ∀ k, zbit zc_pu_m k 0 = false → g' k = g k) := zc_pu_2 E
def zr_remb_m : Nat := 8347777442424647739891689793131403830396014589790738089597386173559692586547517871825089455730204887832389932750757827069883302656726208149407509304838835624093752570458513229084303720001800527001745405577525856320522193320521500112595701241856643522656649451234406616835752143657495714655236579851782719884997763658503945809118421311462710843277858783733700817871764502226782253244208228860286894747796602394977885217183557000008720959143063747555806827372737687229787330191445534265167550959222205644469745536139763361745187020091515887953759557442705277469372571110681608630749913187912311015258645997837920661183842130874685208523447598914872973047205186395041162077535619686743390357455843124883326908368410621080071916706615601649700973974034145674811483423221783161519977671319063885822237717451261311564743073212261906333206816972664958271435829022275362477859140579251468582441723581487589106418772366185016455624840080909496967713930673089882408056064296978843485051604635224203379734117507674711413955525857829688401132319740736476110764315913935023445952305487800049251836955415220693487160953337646216019426490576235118495359101557800448855892035384053713171040017165033485387280632406161050387957158908099063027469655432481773360808468403733321316723691730717152327883008256570729218307261217560942849601488772383281525099045608783049203570054438104890312011005182962964538017247090841769338046160427446462741620495286631541534198353544525736508548467193635726214431543514387234074687773301912903872962060818409260557048562377954808505040305467367221567349517162923047911841866470919951725268488592462695540621553209064841870879465072190568646484985937103513593763409373860126882127408916997275644545734501778207272184903038943181333004180714302421517251964827073169398290891114722689575401899602216041979456040109203843948710066122528903517005296026430823354878891343656432469800524206669984045297876354888791751613435461493757241859665283269643839604213091206720144129332334880787363477651521871911271268352
set_option maxRecDepth 100000 in
theorem zr_remb_t : zrunw zprog2 (zovW []) 100000 zcut0 10 2000 m2X8_remember.2.2.2.2.2.2 (zkin none (zyI.1, zyI.2.1, zr_remb_m)) 0 (zargs 0 [.inr (.inr (.inl 94)), .inr (.inr (.inl 95))], [], (zyI.1, zyI.2.1, 0), 0, 0) = true := by decide +kernel
theorem zr_remb_2 (E : zEnv tys) : zCt l0 D tys o z zyI b m2X8_remember 10 2000 [.ref (b 94), .ref (b 95)] f g (fun v f' g' => v = none ∧ (∀ k j, zbit zr_remb_m k j = false → f' k j = f k j) ∧ ∀ k, zbit zr_remb_m k 0 = false → g' k = g k) := by
  have hM : zMet l0 D vwCl tys o z (zXX o z) zTs m2X8_remember 10 2000 zyI [.inr (.inr (.inl 94)), .inr (.inr (.inl 95))] (zkin none (zyI.1, zyI.2.1, zr_remb_m)) := zMet_run (fun g => zovW_ok (fun d h => absurd h List.not_mem_nil)) zXX_ok (fun g => zprog2_ok (o := zwith o g) E) (show zget zprog2 269 = some m2X8_remember from rfl) (by decide) (by decide) (show 2 ≤ 3 by decide) (show 2 ≤ 700 by decide) zr_remb_t
  refine zCt_mono (zCt_met hM (fun ws hw hb => ?_)) (fun v f' g' h => ?_)
  · have had : ∀ k, k < 126 → zad ws k = some (b k) := by
      intro k hk
      obtain ⟨c, a, e, h1, h2, h3⟩ := hw.2 k (show k < 126 from hk)
      rw [zad_of h2, ← hb, zwB_of h2]
    exact ⟨⟨b 94, had 94 (by decide), rfl⟩, ⟨b 95, had 95 (by decide), rfl⟩, trivial⟩
  · obtain ⟨⟨ad, h1⟩, h2, h3⟩ := h
    refine ⟨?_, h2, h3⟩
    cases v with
    | none => rfl
    | some w => exact (show False from h1).elim
theorem zr_remb (E : zEnv tys) : zCt l0 D tys o z zyI b mX8_remember 10 2000 [.ref (b 94), .ref (b 95)] f g (fun v f' g' => v = none ∧ (∀ k j, zbit zr_remb_m k j = false → f' k j = f k j) ∧ ∀ k, zbit zr_remb_m k 0 = false → g' k = g k) := zr_remb_2 E
/-- slots that matter here -/
def zKp (f f' : Nat → Nat → Value) : Prop := f' 3 6 = f 3 6 ∧ f' 3 7 = f 3 7 ∧ f' 94 1 = f 94 1 ∧ f' 94 3 = f 94 3
theorem zKp_t {f f' f'' : Nat → Nat → Value} (h : zKp f f') (h' : zKp f' f'') : zKp f f'' := ⟨h'.1.trans h.1, h'.2.1.trans h.2.1, h'.2.2.1.trans h.2.2.1, h'.2.2.2.trans h.2.2.2⟩
set_option maxHeartbeats 8000000 in
theorem zc_rota (E : zEnv tys) {c n h : Nat} (hM : f 3 6 = .int (Int32.ofNat c)) (hH : f 3 7 = .int (Int32.ofNat h)) (hy : f 1 1 = .int (Int32.ofNat n)) (hc : c ≤ 8) (hh : h ≤ 8) (hn : n ≤ 80) : zCt l0 D tys o z zyI b mX7_rota 20 2500 [.ref (b 0)] f g (fun v f' g' => ∃ ans, v = some (.int ans) ∧ zRo c (g 2) n h ans ∧ f' 1 1 = .int (Int32.ofNat 0) ∧ f' 94 8 = f 94 8 ∧ zKp f f' ∧ g' 2 = g 2 ∧ g' 99 = g 99) := by
  refine zCt_of (mr := mX7_rota) (by decide) (by decide) (by decide) (show 1 ≤ 3 by decide) rfl rfl ?_
  intro p e s m below meth c0 Q ls ws C hret hv hlv
  replace C : zCx p { frames := 20, cells := 0, slots := 0, locals := 2500 } s m ([.ref (b 0)] : List Value).toArray meth c0 D vwCl tys z (zXX o z) zTs RX7 cX7_rota 3 "rota" := C
  have hlv : lv_has ls 3 [(0, .ref (b 0))] := hlv
  refine lv_aload_n C.1 C.2.1 (zda zDX7_rota 0 rfl rfl) rfl (lv_at hlv 0 rfl) ?_
  refine zV_callV C (zc_rf hM hH hy hc hh hn) rfl rfl (by decide) (by decide) (show vwCl[7]? = some (RX7, TX7, 16) from rfl) zw608 zw605 zw607 zs29 zw1 (n := 0) (by decide +kernel) (zda zDX7_rota 1 rfl rfl) rfl zvk0 (show 0 < 126 by decide) hv hlv.1 (by show 0 ≤ 8; decide) (Nat.zero_le _) (Nat.zero_le _) (fun v f9 g9 ws H locs hp hv => ?_)
  obtain ⟨hcase, rfl, rfl⟩ := hp
  rcases hcase with ⟨w, hw, rfl⟩ | ⟨hnh, hval, rfl⟩
  · have hw80 : w ≤ 80 := by have := hw.1; omega
    refine lv_istore_n C.1 C.2.1 (zda zDX7_rota 4 rfl rfl) rfl hlv (lv' := [(1, .int (Int32.ofNat w)), (0, .ref (b 0))]) (by decide) rfl (fun ls hlv => ?_)
    refine lv_iconst C.1 C.2.1 (zda zDX7_rota 5 rfl rfl) rfl ?_
    refine lv_iload_n C.1 C.2.1 (zda zDX7_rota 6 rfl rfl) rfl (lv_at hlv 0 rfl) ?_
    refine lv_isub C.1 C.2.1 (zda zDX7_rota 7 rfl rfl) ?_
    refine lv_istore_n C.1 C.2.1 (zda zDX7_rota 8 rfl rfl) rfl hlv (lv' := [(2, .int ((Int32.ofInt (-1)) - (Int32.ofNat w))), (1, .int (Int32.ofNat w)), (0, .ref (b 0))]) (by decide) rfl (fun ls hlv => ?_)
    refine lv_iload_n C.1 C.2.1 (zda zDX7_rota 9 rfl rfl) rfl (lv_at hlv 1 rfl) ?_
    refine lv_iconst C.1 C.2.1 (zda zDX7_rota 10 rfl rfl) rfl ?_
    refine lv_icmp_ne C.1 C.2.1 (zda zDX7_rota 11 rfl rfl) (tgt := 41) (by decide) (fun h11 => ?_) (fun h11 => ?_)
    · refine lv_aload_n C.1 C.2.1 (zda zDX7_rota 41 rfl rfl) rfl (lv_at hlv 2 rfl) ?_
      refine zV_get C (zda zDX7_rota 42 rfl rfl) (show vwCl[7]? = some (RX7, TX7, 16) from rfl) zinX7 (by decide) zw423 hv zvk0 (show 0 < 126 by decide) rfl (j := 0) (zV_ref hv zvk0 (show 0 < 126 by decide) rfl) ?_
      refine zV_callN C (zc_empty) rfl rfl (by decide) (by decide) (show vwCl[6]? = some (RX6, TX6, 2) from rfl) zw520 (fun U H h => zn42 h) zw519 zs18 zw2 (n := 0) (by decide +kernel) (zda zDX7_rota 45 rfl rfl) rfl zvk1 (show 1 < 126 by decide) hv hlv.1 (by show 0 ≤ 8; decide) (Nat.zero_le _) (Nat.zero_le _) (fun v f9 g9 ws H locs hp hv => ?_)
      obtain ⟨rfl, rfl, rfl⟩ := hp
      refine lv_iload_n C.1 C.2.1 (zda zDX7_rota 48 rfl rfl) rfl (lv_at hlv 0 rfl) ?_
      exact hret 49 ls (some _) _ _ _ _ _ (Or.inl ⟨_, .int, rfl, rfl, rfl, (zda zDX7_rota 49 rfl rfl)⟩) hv (⟨_, rfl, Or.inl ⟨w, hw, rfl⟩, rfl, rfl, ⟨rfl, rfl, rfl, rfl⟩, rfl, rfl⟩)
    · exact absurd h11 (zne1 (by omega))
  · refine lv_istore_n C.1 C.2.1 (zda zDX7_rota 4 rfl rfl) rfl hlv (lv' := [(1, .int (Int32.ofInt (-1))), (0, .ref (b 0))]) (by decide) rfl (fun ls hlv => ?_)
    refine lv_iconst C.1 C.2.1 (zda zDX7_rota 5 rfl rfl) rfl ?_
    refine lv_iload_n C.1 C.2.1 (zda zDX7_rota 6 rfl rfl) rfl (lv_at hlv 0 rfl) ?_
    refine lv_isub C.1 C.2.1 (zda zDX7_rota 7 rfl rfl) ?_
    refine lv_istore_n C.1 C.2.1 (zda zDX7_rota 8 rfl rfl) rfl hlv (lv' := [(2, .int ((Int32.ofInt (-1)) - (Int32.ofInt (-1)))), (1, .int (Int32.ofInt (-1))), (0, .ref (b 0))]) (by decide) rfl (fun ls hlv => ?_)
    refine lv_iload_n C.1 C.2.1 (zda zDX7_rota 9 rfl rfl) rfl (lv_at hlv 1 rfl) ?_
    refine lv_iconst C.1 C.2.1 (zda zDX7_rota 10 rfl rfl) rfl ?_
    refine lv_icmp_ne C.1 C.2.1 (zda zDX7_rota 11 rfl rfl) (tgt := 41) (by decide) (fun h11 => ?_) (fun h11 => ?_)
    · exact absurd rfl h11
    · refine lv_aload_n C.1 C.2.1 (zda zDX7_rota 14 rfl rfl) rfl (lv_at hlv 2 rfl) ?_
      refine zV_get C (zda zDX7_rota 15 rfl rfl) (show vwCl[7]? = some (RX7, TX7, 16) from rfl) zinX7 (by decide) zw426 hv zvk0 (show 0 < 126 by decide) rfl (j := 3) (zV_ref hv zvk0 (show 0 < 126 by decide) rfl) ?_
      refine lv_aload_n C.1 C.2.1 (zda zDX7_rota 18 rfl rfl) rfl (lv_at hlv 2 rfl) ?_
      refine zV_get C (zda zDX7_rota 19 rfl rfl) (show vwCl[7]? = some (RX7, TX7, 16) from rfl) zinX7 (by decide) zw425 hv zvk0 (show 0 < 126 by decide) rfl (j := 2) (zV_ref hv zvk0 (show 0 < 126 by decide) rfl) ?_
      refine zV_callN C (zc_cp E) rfl rfl (by decide) (by decide) (show vwCl[5]? = some (RX5, TX5, 6) from rfl) zw614 (fun U H h => zn52 h) zw613 zs30 zw11 (n := 1) (by decide +kernel) (zda zDX7_rota 22 rfl rfl) rfl zvk18 (show 18 < 126 by decide) hv hlv.1 (by show 0 ≤ 8; decide) (Nat.zero_le _) (Nat.zero_le _) (fun v f9 g9 ws H locs hp hv => ?_)
      obtain ⟨rfl, hF1, hG1⟩ := hp
      have q2 : g9 2 = g 2 := hG1 2 (by decide +kernel)
      refine lv_aload_n C.1 C.2.1 (zda zDX7_rota 25 rfl rfl) rfl (lv_at hlv 2 rfl) ?_
      refine zV_callV C (zc_tr (c := c) ((hF1 3 7 (by decide +kernel)).trans hH) ((hF1 1 1 (by decide +kernel)).trans hy) hh hn hnh hc (fun p hp => by rw [q2]; exact hval p hp)) rfl rfl (by decide) (by decide) (show vwCl[7]? = some (RX7, TX7, 16) from rfl) zw621 zw618 zw620 zs31 zw1 (n := 0) (by decide +kernel) (zda zDX7_rota 26 rfl rfl) rfl zvk0 (show 0 < 126 by decide) hv hlv.1 (by show 0 ≤ 8; decide) (Nat.zero_le _) (Nat.zero_le _) (fun v f8 g8 ws H locs hp hv => ?_)
      obtain ⟨rfl, rfl, hG2⟩ := hp
      refine lv_istore_n C.1 C.2.1 (zda zDX7_rota 29 rfl rfl) rfl hlv (lv' := [(2, .int (Int32.ofNat (zqcn (g9 2) h))), (1, .int (Int32.ofInt (-1))), (0, .ref (b 0))]) (by decide) rfl (fun ls hlv => ?_)
      refine lv_aload_n C.1 C.2.1 (zda zDX7_rota 30 rfl rfl) rfl (lv_at hlv 2 rfl) ?_
      refine zV_get C (zda zDX7_rota 31 rfl rfl) (show vwCl[7]? = some (RX7, TX7, 16) from rfl) zinX7 (by decide) zw428 hv zvk0 (show 0 < 126 by decide) rfl (j := 5) (zV_ref hv zvk0 (show 0 < 126 by decide) rfl) ?_
      refine lv_aload_n C.1 C.2.1 (zda zDX7_rota 34 rfl rfl) rfl (lv_at hlv 2 rfl) ?_
      refine zV_get C (zda zDX7_rota 35 rfl rfl) (show vwCl[7]? = some (RX7, TX7, 16) from rfl) zinX7 (by decide) zw426 hv zvk0 (show 0 < 126 by decide) rfl (j := 3) (zV_ref hv zvk0 (show 0 < 126 by decide) rfl) ?_
      refine zV_callN C (zc_pu E) rfl rfl (by decide) (by decide) (show vwCl[2]? = some (RX2, TX2, 3) from rfl) zw625 (fun U H h => zn53 h) zw624 zs32 zw13 (n := 1) (by decide +kernel) (zda zDX7_rota 38 rfl rfl) rfl zvk24 (show 24 < 126 by decide) hv hlv.1 (by show 0 ≤ 8; decide) (Nat.zero_le _) (Nat.zero_le _) (fun v f7 g7 ws H locs hp hv => ?_)
      obtain ⟨rfl, hF3, hG3⟩ := hp
      refine lv_aload_n C.1 C.2.1 (zda zDX7_rota 41 rfl rfl) rfl (lv_at hlv 2 rfl) ?_
      refine zV_get C (zda zDX7_rota 42 rfl rfl) (show vwCl[7]? = some (RX7, TX7, 16) from rfl) zinX7 (by decide) zw423 hv zvk0 (show 0 < 126 by decide) rfl (j := 0) (zV_ref hv zvk0 (show 0 < 126 by decide) rfl) ?_
      refine zV_callN C (zc_empty) rfl rfl (by decide) (by decide) (show vwCl[6]? = some (RX6, TX6, 2) from rfl) zw520 (fun U H h => zn42 h) zw519 zs18 zw2 (n := 0) (by decide +kernel) (zda zDX7_rota 45 rfl rfl) rfl zvk1 (show 1 < 126 by decide) hv hlv.1 (by show 0 ≤ 8; decide) (Nat.zero_le _) (Nat.zero_le _) (fun v f6 g6 ws H locs hp hv => ?_)
      obtain ⟨rfl, rfl, rfl⟩ := hp
      refine lv_iload_n C.1 C.2.1 (zda zDX7_rota 48 rfl rfl) rfl (lv_at hlv 0 rfl) ?_
      exact hret 49 ls (some _) _ _ _ _ _ (Or.inl ⟨_, .int, rfl, rfl, rfl, (zda zDX7_rota 49 rfl rfl)⟩) hv (⟨_, rfl, Or.inr ⟨hnh, hval, by rw [q2]⟩, rfl, ((hF3 94 8 (by decide +kernel)).trans (hF1 94 8 (by decide +kernel))), ⟨((hF3 3 6 (by decide +kernel)).trans (hF1 3 6 (by decide +kernel))), ((hF3 3 7 (by decide +kernel)).trans (hF1 3 7 (by decide +kernel))), ((hF3 94 1 (by decide +kernel)).trans (hF1 94 1 (by decide +kernel))), ((hF3 94 3 (by decide +kernel)).trans (hF1 94 3 (by decide +kernel)))⟩, (hG3 2 (by decide +kernel)).trans ((hG2 2 (by decide)).trans q2), (hG3 99 (by decide +kernel)).trans ((hG2 99 (by decide)).trans (hG1 99 (by decide +kernel)))⟩)
theorem zve95n : zfor (zelr zvf95 (-1) 7) 8 = true := by decide +kernel
/-- whose an hour is, as a sign tells it -/
def zvs (S : Nat → Int32) (p : Nat) : Int := if (S p).toInt = 45 then -1 else (S p).toInt - 48
set_option maxHeartbeats 8000000 in
theorem zr_rota (E : zEnv tys) {c n h : Nat} (hM : f 94 3 = .int (Int32.ofNat c)) (hH : f 94 1 = .int (Int32.ofNat h)) (hy : f 94 8 = .int (Int32.ofNat n)) (hc : c ≤ 8) (hh : h ≤ 8) (hn : n ≤ 80) : zCt l0 D tys o z zyI b mX8_rota 20 2500 [.ref (b 94)] f g (fun v f' g' => ∃ ans, v = some (.int ans) ∧ zRo c (zSg (g 99)) n h ans ∧ f' 94 8 = .int (Int32.ofNat 0) ∧ f' 1 1 = f 1 1 ∧ zKp f f' ∧ g' 2 = g 2 ∧ g' 99 = g 99) := by
  refine zCt_of (mr := mX8_rota) (by decide) (by decide) (by decide) (show 1 ≤ 3 by decide) rfl rfl ?_
  intro p e s m below meth c0 Q ls ws C hret hv hlv
  replace C : zCx p { frames := 20, cells := 0, slots := 0, locals := 2500 } s m ([.ref (b 94)] : List Value).toArray meth c0 D vwCl tys z (zXX o z) zTs RX8 cX8_rota 3 "rota" := C
  have hlv : lv_has ls 3 [(0, .ref (b 94))] := hlv
  have loop2 : ∀ (fuel q : Nat) (f1 : Nat → Nat → Value) (g1 : Nat → Nat → Int32) (ws : va_W) (H : Heap) (locs : List Loc) (ls : Array Slot), 8 - q < fuel → q ≤ 8 → zV zyI D tys o z s.heap b f1 g1 ws H locs → zKp f f1 → f1 94 8 = .int (Int32.ofNat 0) → f1 1 1 = f 1 1 → g1 2 = g 2 → g1 99 = g 99 → (∀ p, p < h → (g1 101 p).toInt = zvs (zSg (g 99)) p) → n = h → (∀ p, p < h → zRv c (zSg (g 99) p)) → lv_has ls 3 [(2, .int (Int32.ofNat q)), (1, .int (Int32.ofNat (zqcn (zSg (g 99)) (min q h)))), (0, .ref (b 94))] → W p l0 e { frames := 20, cells := 0, slots := 0, locals := 2500 } s m ([.ref (b 94)] : List Value).toArray below meth c0 H locs 0 0 Q (F0 m 128 ls []) := by
    intro fuel
    induction fuel with
    | zero => intro q f1 g1 ws H locs ls hf; omega
    | succ fuel ih =>
      intro q f1 g1 ws H locs ls hfu hq hv hK hy1 h11 h2 h99 hcm hnh hval hlv
      have hH1 : f1 94 1 = .int (Int32.ofNat h) := hK.2.2.1.trans hH
      have hcl := zqcn_le (S := zSg (g 99)) (min q h)
      have hm1 : min q h ≤ q := Nat.min_le_left _ _
      have hm2 : min q h ≤ h := Nat.min_le_right _ _
      have hq9 := zon (show q < 1000 by omega)
      refine lv_iload_n C.1 C.2.1 (zda zDX8_rota 128 rfl rfl) rfl (lv_at hlv 0 rfl) ?_
      refine lv_bipush C.1 C.2.1 (zda zDX8_rota 129 rfl rfl) rfl ?_
      refine lv_icmp_ge C.1 C.2.1 (zda zDX8_rota 131 rfl rfl) (tgt := 182) (by decide) (fun h131 => ?_) (fun h131 => ?_)
      · rw [zi8, zol (by omega) (by omega)] at h131
        refine lv_iload_n C.1 C.2.1 (zda zDX8_rota 182 rfl rfl) rfl (lv_at hlv 1 rfl) ?_
        exact hret 183 ls (some _) _ _ _ _ _ (Or.inl ⟨_, .int, rfl, rfl, rfl, (zda zDX8_rota 183 rfl rfl)⟩) hv (⟨_, rfl, Or.inr ⟨hnh, hval, by rw [show min q h = h by omega]⟩, hy1, h11, hK, h2, h99⟩)
      · rw [zi8, zol (by omega) (by omega)] at h131
        refine lv_aload_n C.1 C.2.1 (zda zDX8_rota 134 rfl rfl) rfl (lv_at hlv 2 rfl) ?_
        refine zV_get C (zda zDX8_rota 135 rfl rfl) (show vwCl[8]? = some (RX8, TX8, 51) from rfl) zinX8 (by decide) zw1172 hv zvk94 (show 94 < 126 by decide) rfl (j := 0) (zV_ref hv zvk94 (show 94 < 126 by decide) rfl) ?_
        refine lv_iload_n C.1 C.2.1 (zda zDX8_rota 138 rfl rfl) rfl (lv_at hlv 0 rfl) ?_
        refine lv_iload_n C.1 C.2.1 (zda zDX8_rota 139 rfl rfl) rfl (lv_at hlv 0 rfl) ?_
        refine lv_aload_n C.1 C.2.1 (zda zDX8_rota 140 rfl rfl) rfl (lv_at hlv 2 rfl) ?_
        refine zV_get C (zda zDX8_rota 141 rfl rfl) (show vwCl[8]? = some (RX8, TX8, 51) from rfl) zinX8 (by decide) zw1173 hv zvk94 (show 94 < 126 by decide) rfl (j := 1) hH1 ?_
        refine lv_icmp_ge C.1 C.2.1 (zda zDX8_rota 144 rfl rfl) (tgt := 156) (by decide) (fun h144 => ?_) (fun h144 => ?_)
        · rw [zol (by omega) (by omega)] at h144
          have hcn : Int32.ofNat (zqcn (zSg (g 99)) (min q h)) = Int32.ofNat (zqcn (zSg (g 99)) (min (q + 1) h)) := by rw [show min (q + 1) h = min q h by omega]
          refine lv_iconst C.1 C.2.1 (zda zDX8_rota 156 rfl rfl) rfl ?_
          refine zV_st0 C (zda zDX8_rota 157 rfl rfl) hv zvk95 (show 95 < 126 by decide) (i := q) (hq9) (by omega) (zelr_ok zve95n (by omega) (by show (-1 : Int) ≤ _; decide) (by show _ ≤ (7 : Int); decide)) (fun ws H locs hv => ?_)
          refine lv_iload_n C.1 C.2.1 (zda zDX8_rota 158 rfl rfl) rfl (lv_at hlv 1 rfl) ?_
          refine lv_aload_n C.1 C.2.1 (zda zDX8_rota 159 rfl rfl) rfl (lv_at hlv 2 rfl) ?_
          refine zV_get C (zda zDX8_rota 160 rfl rfl) (show vwCl[8]? = some (RX8, TX8, 51) from rfl) zinX8 (by decide) zw1172 hv zvk94 (show 94 < 126 by decide) rfl (j := 0) (zV_ref hv zvk94 (show 94 < 126 by decide) rfl) ?_
          refine lv_iload_n C.1 C.2.1 (zda zDX8_rota 163 rfl rfl) rfl (lv_at hlv 0 rfl) ?_
          refine zV_ld0 C (zda zDX8_rota 164 rfl rfl) hv zvk95 (show 95 < 126 by decide) (i := q) (hq9) (by omega) ?_
          rw [show zua g1 95 q _ 95 q = _ from zua_s]
          refine lv_iconst C.1 C.2.1 (zda zDX8_rota 165 rfl rfl) rfl ?_
          refine lv_icmp_ne C.1 C.2.1 (zda zDX8_rota 166 rfl rfl) (tgt := 173) (by decide) (fun h166 => ?_) (fun h166 => ?_)
          · exact absurd rfl h166
          · refine lv_iconst C.1 C.2.1 (zda zDX8_rota 169 rfl rfl) rfl ?_
            refine lv_goto C.1 C.2.1 (zda zDX8_rota 170 rfl rfl) (tgt := 174) (by decide) ?_
            refine lv_iadd C.1 C.2.1 (zda zDX8_rota 174 rfl rfl) ?_
            rw [zaz]
            refine lv_istore_n C.1 C.2.1 (zda zDX8_rota 175 rfl rfl) rfl hlv (lv' := [(1, .int (Int32.ofNat (zqcn (zSg (g 99)) (min q h)))), (2, .int (Int32.ofNat q)), (0, .ref (b 94))]) (by decide) rfl (fun ls hlv => ?_)
            refine lv_iinc C.1 C.2.1 (zda zDX8_rota 176 rfl rfl) hlv (k := 1) rfl rfl (by decide) (lv' := [(2, .int ((Int32.ofNat q) + Int32.ofInt 1)), (1, .int (Int32.ofNat (zqcn (zSg (g 99)) (min q h)))), (0, .ref (b 94))]) rfl (fun ls hlv => ?_)
            refine lv_goto C.1 C.2.1 (zda zDX8_rota 179 rfl rfl) (tgt := 128) (by decide) ?_
            rw [zsuc (show q < 1000 by omega)] at hlv
            refine ih (q + 1) f1 _ ws H locs ls (by omega) (by omega) hv hK hy1 h11 h2 h99 hcm hnh hval ?_
            rw [hcn] at hlv
            exact hlv
        · rw [zol (by omega) (by omega)] at h144
          have hcq := hcm q (by omega)
          have hvq := hval q (by omega)
          refine lv_aload_n C.1 C.2.1 (zda zDX8_rota 147 rfl rfl) rfl (lv_at hlv 2 rfl) ?_
          refine zV_get C (zda zDX8_rota 148 rfl rfl) (show vwCl[8]? = some (RX8, TX8, 51) from rfl) zinX8 (by decide) zw1189 hv zvk94 (show 94 < 126 by decide) rfl (j := 17) (zV_ref hv zvk94 (show 94 < 126 by decide) rfl) ?_
          refine lv_iload_n C.1 C.2.1 (zda zDX8_rota 151 rfl rfl) rfl (lv_at hlv 0 rfl) ?_
          refine zV_ld0 C (zda zDX8_rota 152 rfl rfl) hv zvk101 (show 101 < 126 by decide) (i := q) (hq9) (by omega) ?_
          refine lv_goto C.1 C.2.1 (zda zDX8_rota 153 rfl rfl) (tgt := 157) (by decide) ?_
          by_cases h45 : (zSg (g 99) q).toInt = 45
          · have hcv : (g1 101 q).toInt = -1 := by rw [hcq]; unfold zvs; rw [if_pos h45]
            have hce : g1 101 q = Int32.ofInt (-1) := Int32.toInt_inj.mp (hcv.trans zm1.symm)
            have hcn : Int32.ofNat (zqcn (zSg (g 99)) (min q h)) = Int32.ofNat (zqcn (zSg (g 99)) (min (q + 1) h)) := by
              rw [show min (q + 1) h = q + 1 by omega, show min q h = q by omega]
              show _ = Int32.ofNat (zqcn (zSg (g 99)) q + (if (zSg (g 99) q).toInt = 45 then 0 else 1))
              rw [if_pos h45, Nat.add_zero]
            refine zV_st0 C (zda zDX8_rota 157 rfl rfl) hv zvk95 (show 95 < 126 by decide) (i := q) (hq9) (by omega) (zelr_ok zve95n (by omega) (by show (-1 : Int) ≤ _; omega) (by show _ ≤ (7 : Int); omega)) (fun ws H locs hv => ?_)
            refine lv_iload_n C.1 C.2.1 (zda zDX8_rota 158 rfl rfl) rfl (lv_at hlv 1 rfl) ?_
            refine lv_aload_n C.1 C.2.1 (zda zDX8_rota 159 rfl rfl) rfl (lv_at hlv 2 rfl) ?_
            refine zV_get C (zda zDX8_rota 160 rfl rfl) (show vwCl[8]? = some (RX8, TX8, 51) from rfl) zinX8 (by decide) zw1172 hv zvk94 (show 94 < 126 by decide) rfl (j := 0) (zV_ref hv zvk94 (show 94 < 126 by decide) rfl) ?_
            refine lv_iload_n C.1 C.2.1 (zda zDX8_rota 163 rfl rfl) rfl (lv_at hlv 0 rfl) ?_
            refine zV_ld0 C (zda zDX8_rota 164 rfl rfl) hv zvk95 (show 95 < 126 by decide) (i := q) (hq9) (by omega) ?_
            rw [show zua g1 95 q _ 95 q = _ from zua_s]
            refine lv_iconst C.1 C.2.1 (zda zDX8_rota 165 rfl rfl) rfl ?_
            refine lv_icmp_ne C.1 C.2.1 (zda zDX8_rota 166 rfl rfl) (tgt := 173) (by decide) (fun h166 => ?_) (fun h166 => ?_)
            · exact absurd hce h166
            · refine lv_iconst C.1 C.2.1 (zda zDX8_rota 169 rfl rfl) rfl ?_
              refine lv_goto C.1 C.2.1 (zda zDX8_rota 170 rfl rfl) (tgt := 174) (by decide) ?_
              refine lv_iadd C.1 C.2.1 (zda zDX8_rota 174 rfl rfl) ?_
              rw [zaz]
              refine lv_istore_n C.1 C.2.1 (zda zDX8_rota 175 rfl rfl) rfl hlv (lv' := [(1, .int (Int32.ofNat (zqcn (zSg (g 99)) (min q h)))), (2, .int (Int32.ofNat q)), (0, .ref (b 94))]) (by decide) rfl (fun ls hlv => ?_)
              refine lv_iinc C.1 C.2.1 (zda zDX8_rota 176 rfl rfl) hlv (k := 1) rfl rfl (by decide) (lv' := [(2, .int ((Int32.ofNat q) + Int32.ofInt 1)), (1, .int (Int32.ofNat (zqcn (zSg (g 99)) (min q h)))), (0, .ref (b 94))]) rfl (fun ls hlv => ?_)
              refine lv_goto C.1 C.2.1 (zda zDX8_rota 179 rfl rfl) (tgt := 128) (by decide) ?_
              rw [zsuc (show q < 1000 by omega)] at hlv
              refine ih (q + 1) f1 _ ws H locs ls (by omega) (by omega) hv hK hy1 h11 h2 h99 hcm hnh hval ?_
              rw [hcn] at hlv
              exact hlv
          · have hcv : (g1 101 q).toInt = (zSg (g 99) q).toInt - 48 := by rw [hcq]; unfold zvs; rw [if_neg h45]
            have hvq2 := hvq.resolve_left h45
            have hce : g1 101 q ≠ Int32.ofInt (-1) := fun q9 => by
              rw [q9, zm1] at hcv
              omega
            have hcn : Int32.ofNat (zqcn (zSg (g 99)) (min q h) + 1) = Int32.ofNat (zqcn (zSg (g 99)) (min (q + 1) h)) := by
              rw [show min (q + 1) h = q + 1 by omega, show min q h = q by omega]
              show _ = Int32.ofNat (zqcn (zSg (g 99)) q + (if (zSg (g 99) q).toInt = 45 then 0 else 1))
              rw [if_neg h45]
            refine zV_st0 C (zda zDX8_rota 157 rfl rfl) hv zvk95 (show 95 < 126 by decide) (i := q) (hq9) (by omega) (zelr_ok zve95n (by omega) (by show (-1 : Int) ≤ _; omega) (by show _ ≤ (7 : Int); omega)) (fun ws H locs hv => ?_)
            refine lv_iload_n C.1 C.2.1 (zda zDX8_rota 158 rfl rfl) rfl (lv_at hlv 1 rfl) ?_
            refine lv_aload_n C.1 C.2.1 (zda zDX8_rota 159 rfl rfl) rfl (lv_at hlv 2 rfl) ?_
            refine zV_get C (zda zDX8_rota 160 rfl rfl) (show vwCl[8]? = some (RX8, TX8, 51) from rfl) zinX8 (by decide) zw1172 hv zvk94 (show 94 < 126 by decide) rfl (j := 0) (zV_ref hv zvk94 (show 94 < 126 by decide) rfl) ?_
            refine lv_iload_n C.1 C.2.1 (zda zDX8_rota 163 rfl rfl) rfl (lv_at hlv 0 rfl) ?_
            refine zV_ld0 C (zda zDX8_rota 164 rfl rfl) hv zvk95 (show 95 < 126 by decide) (i := q) (hq9) (by omega) ?_
            rw [show zua g1 95 q _ 95 q = _ from zua_s]
            refine lv_iconst C.1 C.2.1 (zda zDX8_rota 165 rfl rfl) rfl ?_
            refine lv_icmp_ne C.1 C.2.1 (zda zDX8_rota 166 rfl rfl) (tgt := 173) (by decide) (fun h166 => ?_) (fun h166 => ?_)
            · refine lv_iconst C.1 C.2.1 (zda zDX8_rota 173 rfl rfl) rfl ?_
              refine lv_iadd C.1 C.2.1 (zda zDX8_rota 174 rfl rfl) ?_
              rw [zsuc (by omega)]
              refine lv_istore_n C.1 C.2.1 (zda zDX8_rota 175 rfl rfl) rfl hlv (lv' := [(1, .int (Int32.ofNat (zqcn (zSg (g 99)) (min q h) + 1))), (2, .int (Int32.ofNat q)), (0, .ref (b 94))]) (by decide) rfl (fun ls hlv => ?_)
              refine lv_iinc C.1 C.2.1 (zda zDX8_rota 176 rfl rfl) hlv (k := 1) rfl rfl (by decide) (lv' := [(2, .int ((Int32.ofNat q) + Int32.ofInt 1)), (1, .int (Int32.ofNat (zqcn (zSg (g 99)) (min q h) + 1))), (0, .ref (b 94))]) rfl (fun ls hlv => ?_)
              refine lv_goto C.1 C.2.1 (zda zDX8_rota 179 rfl rfl) (tgt := 128) (by decide) ?_
              rw [zsuc (show q < 1000 by omega)] at hlv
              refine ih (q + 1) f1 _ ws H locs ls (by omega) (by omega) hv hK hy1 h11 h2 h99 hcm hnh hval ?_
              rw [hcn] at hlv
              exact hlv
            · exact absurd h166 hce
  have fin : ∀ (q a : Nat) (U : Int32) (f1 : Nat → Nat → Value) (g1 : Nat → Nat → Int32) (ws : va_W) (H : Heap) (locs : List Loc) (ls : Array Slot), zV zyI D tys o z s.heap b f1 g1 ws H locs → zKp f f1 → f1 94 8 = .int (Int32.ofNat 0) → f1 1 1 = f 1 1 → g1 2 = g 2 → g1 99 = g 99 → zRr b f1 n h a U → ((U = Int32.ofInt (-1) ∧ a = h ∧ h ≤ n ∧ (∀ p, p < h → zRv c (zSg (g 99) p)) ∧ (∀ p, p < h → (g1 101 p).toInt = zvs (zSg (g 99)) p)) ∨ (U = Int32.ofNat a ∧ zRf c (zSg (g 99)) n h a)) → lv_has ls 3 [(1, .int (Int32.ofNat q)), (0, .ref (b 94))] → W p l0 e { frames := 20, cells := 0, slots := 0, locals := 2500 } s m ([.ref (b 94)] : List Value).toArray below meth c0 H locs 0 0 Q (F0 m 102 ls []) := by
    intro q a U f1 g1 ws H locs ls hv hK hy1 h11 h2 h99 hr1 hcase hlv
    obtain ⟨hR, hL, hT, hA, hU, hn8, ht, ha⟩ := id hr1
    refine lv_aload_n C.1 C.2.1 (zda zDX8_rota 102 rfl rfl) rfl (lv_at hlv 1 rfl) ?_
    rcases hcase with ⟨rfl, rfl, hhn, hval, hcm⟩ | ⟨rfl, hF⟩
    · rcases Nat.lt_or_ge a n with han | han
      · refine zV_callV C (zr_right2 hr1 han) rfl rfl (by decide) (by decide) (show vwCl[8]? = some (RX8, TX8, 51) from rfl) zw1376 zw1373 zw1375 zs104 zw16 (n := 0) (by decide +kernel) (zda zDX8_rota 103 rfl rfl) rfl zvk94 (show 94 < 126 by decide) hv hlv.1 (by show 0 ≤ 8; decide) (Nat.zero_le _) (Nat.zero_le _) (fun v f9 g9 ws H locs hp hv => ?_)
        obtain ⟨rfl, rfl, rfl⟩ := hp
        refine lv_if_ne C.1 C.2.1 (zda zDX8_rota 106 rfl rfl) (tgt := 116) (by decide) (fun h106 => ?_) (fun h106 => ?_)
        · exact absurd rfl h106
        · refine lv_iconst C.1 C.2.1 (zda zDX8_rota 109 rfl rfl) rfl ?_
          refine lv_aload_n C.1 C.2.1 (zda zDX8_rota 110 rfl rfl) rfl (lv_at hlv 1 rfl) ?_
          refine zV_get C (zda zDX8_rota 111 rfl rfl) (show vwCl[8]? = some (RX8, TX8, 51) from rfl) zinX8 (by decide) zw1188 hv zvk94 (show 94 < 126 by decide) rfl (j := 16) rfl ?_
          refine lv_isub C.1 C.2.1 (zda zDX8_rota 114 rfl rfl) ?_
          exact hret 115 ls (some _) _ _ _ _ _ (Or.inl ⟨_, .int, rfl, rfl, rfl, (zda zDX8_rota 115 rfl rfl)⟩) hv (⟨_, rfl, Or.inl ⟨a, ⟨by omega, Nat.le_refl _, hval, Or.inr ⟨Or.inr (Nat.le_refl _), by omega⟩⟩, rfl⟩, hy1, h11, hK, h2, h99⟩)
      · refine zV_callV C (zr_right1 hr1 han) rfl rfl (by decide) (by decide) (show vwCl[8]? = some (RX8, TX8, 51) from rfl) zw1376 zw1373 zw1375 zs104 zw16 (n := 0) (by decide +kernel) (zda zDX8_rota 103 rfl rfl) rfl zvk94 (show 94 < 126 by decide) hv hlv.1 (by show 0 ≤ 8; decide) (Nat.zero_le _) (Nat.zero_le _) (fun v f9 g9 ws H locs hp hv => ?_)
        obtain ⟨rfl, rfl, rfl⟩ := hp
        refine lv_if_ne C.1 C.2.1 (zda zDX8_rota 106 rfl rfl) (tgt := 116) (by decide) (fun h106 => ?_) (fun h106 => ?_)
        · refine lv_aload_n C.1 C.2.1 (zda zDX8_rota 116 rfl rfl) rfl (lv_at hlv 1 rfl) ?_
          refine lv_aload_n C.1 C.2.1 (zda zDX8_rota 117 rfl rfl) rfl (lv_at hlv 1 rfl) ?_
          refine zV_get C (zda zDX8_rota 118 rfl rfl) (show vwCl[8]? = some (RX8, TX8, 51) from rfl) zinX8 (by decide) zw1172 hv zvk94 (show 94 < 126 by decide) rfl (j := 0) (zV_ref hv zvk94 (show 94 < 126 by decide) rfl) ?_
          refine zV_callV C (zr_remb E) rfl rfl (by decide) (by decide) (show vwCl[8]? = some (RX8, TX8, 51) from rfl) zw1457 zw1454 zw1456 zs116 zw16 (n := 1) (by decide +kernel) (zda zDX8_rota 121 rfl rfl) rfl zvk94 (show 94 < 126 by decide) hv hlv.1 (by show 0 ≤ 8; decide) (Nat.zero_le _) (Nat.zero_le _) (fun v f9 g9 ws H locs hp hv => ?_)
          obtain ⟨rfl, hF1, hG1⟩ := hp
          refine lv_iconst C.1 C.2.1 (zda zDX8_rota 124 rfl rfl) rfl ?_
          rw [zo00]
          refine lv_istore_n C.1 C.2.1 (zda zDX8_rota 125 rfl rfl) rfl hlv (lv' := [(1, .int (Int32.ofNat 0)), (0, .ref (b 94))]) (by decide) rfl (fun ls hlv => ?_)
          refine lv_iconst C.1 C.2.1 (zda zDX8_rota 126 rfl rfl) rfl ?_
          rw [zo00]
          refine lv_istore_n C.1 C.2.1 (zda zDX8_rota 127 rfl rfl) rfl hlv (lv' := [(2, .int (Int32.ofNat 0)), (1, .int (Int32.ofNat 0)), (0, .ref (b 94))]) (by decide) rfl (fun ls hlv => ?_)
          exact loop2 9 0 _ _ _ _ _ ls (by omega) (by omega) hv (zKp_t hK ⟨hF1 3 6 (by decide +kernel), hF1 3 7 (by decide +kernel), hF1 94 1 (by decide +kernel), hF1 94 3 (by decide +kernel)⟩) ((hF1 94 8 (by decide +kernel)).trans hy1) ((hF1 1 1 (by decide +kernel)).trans h11) ((hG1 2 (by decide +kernel)).trans h2) ((hG1 99 (by decide +kernel)).trans h99) (fun p hp => by rw [hG1 101 (by decide +kernel)]; exact hcm p hp) (by omega) hval (by rw [show min 0 a = 0 by omega]; exact hlv)
        · exact absurd h106 (by decide)
    · refine zV_callV C (zr_right3 hr1 (zne1 (by omega))) rfl rfl (by decide) (by decide) (show vwCl[8]? = some (RX8, TX8, 51) from rfl) zw1376 zw1373 zw1375 zs104 zw16 (n := 0) (by decide +kernel) (zda zDX8_rota 103 rfl rfl) rfl zvk94 (show 94 < 126 by decide) hv hlv.1 (by show 0 ≤ 8; decide) (Nat.zero_le _) (Nat.zero_le _) (fun v f9 g9 ws H locs hp hv => ?_)
      obtain ⟨rfl, rfl, rfl⟩ := hp
      refine lv_if_ne C.1 C.2.1 (zda zDX8_rota 106 rfl rfl) (tgt := 116) (by decide) (fun h106 => ?_) (fun h106 => ?_)
      · exact absurd rfl h106
      · refine lv_iconst C.1 C.2.1 (zda zDX8_rota 109 rfl rfl) rfl ?_
        refine lv_aload_n C.1 C.2.1 (zda zDX8_rota 110 rfl rfl) rfl (lv_at hlv 1 rfl) ?_
        refine zV_get C (zda zDX8_rota 111 rfl rfl) (show vwCl[8]? = some (RX8, TX8, 51) from rfl) zinX8 (by decide) zw1188 hv zvk94 (show 94 < 126 by decide) rfl (j := 16) hU ?_
        refine lv_isub C.1 C.2.1 (zda zDX8_rota 114 rfl rfl) ?_
        exact hret 115 ls (some _) _ _ _ _ _ (Or.inl ⟨_, .int, rfl, rfl, rfl, (zda zDX8_rota 115 rfl rfl)⟩) hv (⟨_, rfl, Or.inl ⟨a, hF, rfl⟩, hy1, h11, hK, h2, h99⟩)
  have loop : ∀ (fuel q : Nat) (f1 : Nat → Nat → Value) (g1 : Nat → Nat → Int32) (ws : va_W) (H : Heap) (locs : List Loc) (ls : Array Slot), h - q < fuel → q ≤ h → q ≤ n → zV zyI D tys o z s.heap b f1 g1 ws H locs → zKp f f1 → f1 94 8 = .int (Int32.ofNat 0) → f1 1 1 = f 1 1 → zOtA g g1 → zRr b f1 n h q (Int32.ofInt (-1)) → (∀ p, p < q → zRv c (zSg (g 99) p)) → (∀ p, p < q → (g1 101 p).toInt = zvs (zSg (g 99)) p) → lv_has ls 3 [(1, .int (Int32.ofNat q)), (0, .ref (b 94))] → W p l0 e { frames := 20, cells := 0, slots := 0, locals := 2500 } s m ([.ref (b 94)] : List Value).toArray below meth c0 H locs 0 0 Q (F0 m 15 ls []) := by
    intro fuel
    induction fuel with
    | zero => intro q f1 g1 ws H locs ls hf; omega
    | succ fuel ih =>
      intro q f1 g1 ws H locs ls hfu hqh hqn hv hK hy1 h11 hoA hr1 hval hcm hlv
      obtain ⟨hR, hL, hT, hA, hU, hn8, ht, ha⟩ := id hr1
      have hH1 : f1 94 1 = .int (Int32.ofNat h) := hK.2.2.1.trans hH
      have hM1 : f1 94 3 = .int (Int32.ofNat c) := hK.2.2.2.trans hM
      have hg99 : g1 99 = g 99 := hoA 99 (by decide)
      have hg2 : g1 2 = g 2 := hoA 2 (by decide)
      have hq9 := zon (show q < 1000 by omega)
      refine lv_iload_n C.1 C.2.1 (zda zDX8_rota 15 rfl rfl) rfl (lv_at hlv 0 rfl) ?_
      refine lv_aload_n C.1 C.2.1 (zda zDX8_rota 16 rfl rfl) rfl (lv_at hlv 1 rfl) ?_
      refine zV_get C (zda zDX8_rota 17 rfl rfl) (show vwCl[8]? = some (RX8, TX8, 51) from rfl) zinX8 (by decide) zw1173 hv zvk94 (show 94 < 126 by decide) rfl (j := 1) hH1 ?_
      refine lv_icmp_ge C.1 C.2.1 (zda zDX8_rota 20 rfl rfl) (tgt := 102) (by decide) (fun h20 => ?_) (fun h20 => ?_)
      · rw [zol (by omega) (by omega)] at h20
        have hqh2 : q = h := by omega
        subst hqh2
        exact fin _ q _ _ _ _ _ _ ls hv hK hy1 h11 hg2 hg99 hr1 (Or.inl ⟨rfl, rfl, hqn, hval, hcm⟩) hlv
      · rw [zol (by omega) (by omega)] at h20
        refine lv_aload_n C.1 C.2.1 (zda zDX8_rota 23 rfl rfl) rfl (lv_at hlv 1 rfl) ?_
        refine zV_callV C (zr_fineT hU) rfl rfl (by decide) (by decide) (show vwCl[8]? = some (RX8, TX8, 51) from rfl) zw1352 zw1349 zw1351 zs98 zw16 (n := 0) (by decide +kernel) (zda zDX8_rota 24 rfl rfl) rfl zvk94 (show 94 < 126 by decide) hv hlv.1 (by show 0 ≤ 8; decide) (Nat.zero_le _) (Nat.zero_le _) (fun v f9 g9 ws H locs hp hv => ?_)
        obtain ⟨rfl, rfl, rfl⟩ := hp
        refine lv_if_eq C.1 C.2.1 (zda zDX8_rota 27 rfl rfl) (tgt := 102) (by decide) (fun h27 => ?_) (fun h27 => ?_)
        · exact absurd h27 (by decide)
        · refine lv_aload_n C.1 C.2.1 (zda zDX8_rota 30 rfl rfl) rfl (lv_at hlv 1 rfl) ?_
          refine zV_callV C (zr_here hr1) rfl rfl (by decide) (by decide) (show vwCl[8]? = some (RX8, TX8, 51) from rfl) zw1368 zw1365 zw1367 zs102 zw16 (n := 0) (by decide +kernel) (zda zDX8_rota 31 rfl rfl) rfl zvk94 (show 94 < 126 by decide) hv hlv.1 (by show 0 ≤ 8; decide) (Nat.zero_le _) (Nat.zero_le _) (fun v f9 g9 ws H locs hp hv => ?_)
          obtain ⟨rfl, rfl, rfl⟩ := hp
          refine lv_bipush C.1 C.2.1 (zda zDX8_rota 34 rfl rfl) rfl ?_
          have hrng : -1 ≤ (zhe (g1 99) n h q).toInt ∧ (zhe (g1 99) n h q).toInt ≤ 255 := by
            by_cases hq2 : q < n ∧ q < h
            · rw [zhe_i hq2.1 hq2.2]
              have := zand255 (g1 99 q)
              omega
            · rw [zhe_o hq2, zm1]
              decide
          have hs48 := zqs48 hrng.1 hrng.2
          refine lv_icmp_ne C.1 C.2.1 (zda zDX8_rota 36 rfl rfl) (tgt := 43) (by decide) (fun h36 => ?_) (fun h36 => ?_)
          · have hne : (zhe (g1 99) n h q).toInt ≠ 45 := fun q9 => h36 (Int32.toInt_inj.mp (q9.trans zi45.symm))
            refine lv_aload_n C.1 C.2.1 (zda zDX8_rota 43 rfl rfl) rfl (lv_at hlv 1 rfl) ?_
            refine zV_callV C (zr_here hr1) rfl rfl (by decide) (by decide) (show vwCl[8]? = some (RX8, TX8, 51) from rfl) zw1368 zw1365 zw1367 zs102 zw16 (n := 0) (by decide +kernel) (zda zDX8_rota 44 rfl rfl) rfl zvk94 (show 94 < 126 by decide) hv hlv.1 (by show 0 ≤ 8; decide) (Nat.zero_le _) (Nat.zero_le _) (fun v f9 g9 ws H locs hp hv => ?_)
            obtain ⟨rfl, rfl, rfl⟩ := hp
            refine lv_bipush C.1 C.2.1 (zda zDX8_rota 47 rfl rfl) rfl ?_
            refine lv_isub C.1 C.2.1 (zda zDX8_rota 49 rfl rfl) ?_
            refine lv_istore_n C.1 C.2.1 (zda zDX8_rota 50 rfl rfl) rfl hlv (lv' := [(2, .int ((zhe (g1 99) n h q) - ((Int8.ofInt 48).toInt32))), (1, .int (Int32.ofNat q)), (0, .ref (b 94))]) (by decide) rfl (fun ls hlv => ?_)
            refine lv_aload_n C.1 C.2.1 (zda zDX8_rota 51 rfl rfl) rfl (lv_at hlv 2 rfl) ?_
            refine zV_callV C (zr_here hr1) rfl rfl (by decide) (by decide) (show vwCl[8]? = some (RX8, TX8, 51) from rfl) zw1368 zw1365 zw1367 zs102 zw16 (n := 0) (by decide +kernel) (zda zDX8_rota 52 rfl rfl) rfl zvk94 (show 94 < 126 by decide) hv hlv.1 (by show 0 ≤ 8; decide) (Nat.zero_le _) (Nat.zero_le _) (fun v f9 g9 ws H locs hp hv => ?_)
            obtain ⟨rfl, rfl, rfl⟩ := hp
            refine lv_bipush C.1 C.2.1 (zda zDX8_rota 55 rfl rfl) rfl ?_
            refine lv_icmp_eq C.1 C.2.1 (zda zDX8_rota 57 rfl rfl) (tgt := 79) (by decide) (fun h57 => ?_) (fun h57 => ?_)
            · exact absurd h57 h36
            · refine lv_aload_n C.1 C.2.1 (zda zDX8_rota 60 rfl rfl) rfl (lv_at hlv 2 rfl) ?_
              refine lv_iload_n C.1 C.2.1 (zda zDX8_rota 61 rfl rfl) rfl (lv_at hlv 0 rfl) ?_
              by_cases hcc : 48 ≤ (zhe (g1 99) n h q).toInt ∧ (zhe (g1 99) n h q).toInt < 48 + (c : Int)
              · refine zV_callV C (zr_man1T hM1 hc (by rw [hs48]; omega)) rfl rfl (by decide) (by decide) (show vwCl[8]? = some (RX8, TX8, 51) from rfl) zw1419 zw1416 zw1418 zs112 zw16 (n := 1) (by decide +kernel) (zda zDX8_rota 62 rfl rfl) rfl zvk94 (show 94 < 126 by decide) hv hlv.1 (by show 0 ≤ 8; decide) (Nat.zero_le _) (Nat.zero_le _) (fun v f9 g9 ws H locs hp hv => ?_)
                obtain ⟨rfl, rfl, rfl⟩ := hp
                refine lv_if_ne C.1 C.2.1 (zda zDX8_rota 65 rfl rfl) (tgt := 79) (by decide) (fun h65 => ?_) (fun h65 => ?_)
                · have hhe := hcc.1
                  have hlt : q < n ∧ q < h := by
                    by_cases hq2 : q < n ∧ q < h
                    · exact hq2
                    · exfalso
                      rw [zhe_o hq2] at hhe
                      rw [zm1] at hhe
                      omega
                  have hS : zhe (g1 99) n h q = zSg (g 99) q := by rw [zhe_S hlt.1 hlt.2, hg99]
                  have hq1 := zon (show q + 1 < 1000 by omega)
                  refine lv_aload_n C.1 C.2.1 (zda zDX8_rota 79 rfl rfl) rfl (lv_at hlv 2 rfl) ?_
                  refine lv_dup C.1 C.2.1 (zda zDX8_rota 80 rfl rfl) rfl ?_
                  refine zV_get C (zda zDX8_rota 81 rfl rfl) (show vwCl[8]? = some (RX8, TX8, 51) from rfl) zinX8 (by decide) zw1187 hv zvk94 (show 94 < 126 by decide) rfl (j := 15) hA ?_
                  refine lv_iconst C.1 C.2.1 (zda zDX8_rota 84 rfl rfl) rfl ?_
                  refine lv_iadd C.1 C.2.1 (zda zDX8_rota 85 rfl rfl) ?_
                  refine zV_puti C (zda zDX8_rota 86 rfl rfl) (show vwCl[8]? = some (RX8, TX8, 51) from rfl) zinX8 tyX8 tyX8_ok nmX8 (j := 15) (by decide) zw1187 rfl (by decide +kernel) hv zvk94 (show 94 < 126 by decide) rfl ⟨by show (0 : Int) ≤ _; (rw [zsuc (by omega)]; omega), by show _ ≤ (76 : Int); (rw [zsuc (by omega)]; omega)⟩ (fun ws H locs hv => ?_)
                  rw [zsuc (show q < 1000 by omega)] at hv
                  refine lv_aload_n C.1 C.2.1 (zda zDX8_rota 89 rfl rfl) rfl (lv_at hlv 2 rfl) ?_
                  refine zV_get C (zda zDX8_rota 90 rfl rfl) (show vwCl[8]? = some (RX8, TX8, 51) from rfl) zinX8 (by decide) zw1189 hv zvk94 (show 94 < 126 by decide) rfl (j := 17) (zV_ref hv zvk94 (show 94 < 126 by decide) rfl) ?_
                  refine lv_iload_n C.1 C.2.1 (zda zDX8_rota 93 rfl rfl) rfl (lv_at hlv 1 rfl) ?_
                  refine lv_iload_n C.1 C.2.1 (zda zDX8_rota 94 rfl rfl) rfl (lv_at hlv 0 rfl) ?_
                  refine zV_st0 C (zda zDX8_rota 95 rfl rfl) hv zvk101 (show 101 < 126 by decide) (i := q) (hq9) (by omega) (zelr_ok zve101 (by omega) (by show (-1000 : Int) ≤ _; (rw [hs48]; omega)) (by show _ ≤ (1000 : Int); (rw [hs48]; omega))) (fun ws H locs hv => ?_)
                  refine lv_iinc C.1 C.2.1 (zda zDX8_rota 96 rfl rfl) hlv (k := 1) rfl rfl (by decide) (lv' := [(1, .int ((Int32.ofNat q) + Int32.ofInt 1)), (2, .int ((zhe (g1 99) n h q) - ((Int8.ofInt 48).toInt32))), (0, .ref (b 94))]) rfl (fun ls hlv => ?_)
                  refine lv_goto C.1 C.2.1 (zda zDX8_rota 99 rfl rfl) (tgt := 15) (by decide) ?_
                  rw [zsuc (show q < 1000 by omega)] at hlv
                  refine ih (q + 1) _ _ ws H locs ls (by omega) (by omega) (by omega) hv hK hy1 h11 (zOtA_u hoA) ⟨hR, hL, hT, rfl, hU, hn8, ht, by omega⟩ (fun p hp => ?_) (fun p hp => ?_) (lv_sub hlv [0, 2] rfl)
                  · rcases Nat.lt_or_ge p q with h9 | h9
                    · exact hval p h9
                    · rw [show p = q by omega, ← hS]
                      exact Or.inr hcc
                  · show (upd (g1 101) q _ p).toInt = _
                    unfold upd
                    rcases Nat.lt_or_ge p q with h9 | h9
                    · rw [if_neg (by omega)]
                      exact hcm p h9
                    · rw [if_pos (by omega), show p = q by omega]
                      unfold zvs
                      rw [← hS]
                      rw [if_neg hne, hs48]
                · exact absurd h65 (by decide)
              · refine zV_callV C (zr_man1F hM1 hc (by rw [hs48]; omega)) rfl rfl (by decide) (by decide) (show vwCl[8]? = some (RX8, TX8, 51) from rfl) zw1419 zw1416 zw1418 zs112 zw16 (n := 1) (by decide +kernel) (zda zDX8_rota 62 rfl rfl) rfl zvk94 (show 94 < 126 by decide) hv hlv.1 (by show 0 ≤ 8; decide) (Nat.zero_le _) (Nat.zero_le _) (fun v f9 g9 ws H locs hp hv => ?_)
                obtain ⟨rfl, rfl, rfl⟩ := hp
                refine lv_if_ne C.1 C.2.1 (zda zDX8_rota 65 rfl rfl) (tgt := 79) (by decide) (fun h65 => ?_) (fun h65 => ?_)
                · exact absurd rfl h65
                · refine lv_aload_n C.1 C.2.1 (zda zDX8_rota 68 rfl rfl) rfl (lv_at hlv 2 rfl) ?_
                  refine lv_aload_n C.1 C.2.1 (zda zDX8_rota 69 rfl rfl) rfl (lv_at hlv 2 rfl) ?_
                  refine zV_get C (zda zDX8_rota 70 rfl rfl) (show vwCl[8]? = some (RX8, TX8, 51) from rfl) zinX8 (by decide) zw1187 hv zvk94 (show 94 < 126 by decide) rfl (j := 15) hA ?_
                  refine zV_callV C (zr_faultY hU (by omega)) rfl rfl (by decide) (by decide) (show vwCl[8]? = some (RX8, TX8, 51) from rfl) zw1356 zw1353 zw1355 zs99 zw16 (n := 1) (by decide +kernel) (zda zDX8_rota 73 rfl rfl) rfl zvk94 (show 94 < 126 by decide) hv hlv.1 (by show 0 ≤ 8; decide) (Nat.zero_le _) (Nat.zero_le _) (fun v f9 g9 ws H locs hp hv => ?_)
                  obtain ⟨rfl, rfl, rfl⟩ := hp
                  refine lv_goto C.1 C.2.1 (zda zDX8_rota 76 rfl rfl) (tgt := 96) (by decide) ?_
                  refine lv_iinc C.1 C.2.1 (zda zDX8_rota 96 rfl rfl) hlv (k := 1) rfl rfl (by decide) (lv' := [(1, .int ((Int32.ofNat q) + Int32.ofInt 1)), (2, .int ((zhe (g1 99) n h q) - ((Int8.ofInt 48).toInt32))), (0, .ref (b 94))]) rfl (fun ls hlv => ?_)
                  refine lv_goto C.1 C.2.1 (zda zDX8_rota 99 rfl rfl) (tgt := 15) (by decide) ?_
                  rw [zsuc (show q < 1000 by omega)] at hlv
                  refine lv_iload_n C.1 C.2.1 (zda zDX8_rota 15 rfl rfl) rfl (lv_at hlv 0 rfl) ?_
                  refine lv_aload_n C.1 C.2.1 (zda zDX8_rota 16 rfl rfl) rfl (lv_at hlv 2 rfl) ?_
                  refine zV_get C (zda zDX8_rota 17 rfl rfl) (show vwCl[8]? = some (RX8, TX8, 51) from rfl) zinX8 (by decide) zw1173 hv zvk94 (show 94 < 126 by decide) rfl (j := 1) hH1 ?_
                  refine lv_icmp_ge C.1 C.2.1 (zda zDX8_rota 20 rfl rfl) (tgt := 102) (by decide) (fun h20 => ?_) (fun h20 => ?_)
                  · refine fin _ q _ _ _ _ _ _ ls hv hK hy1 h11 hg2 hg99 ⟨hR, hL, hT, hA, rfl, hn8, ht, ha⟩ (Or.inr ⟨rfl, by omega, by omega, hval, ?_⟩) (lv_sub hlv [0, 2] rfl)
                    by_cases hq2 : q < n ∧ q < h
                    · refine Or.inl ⟨hq2.1, hq2.2, fun hz => ?_⟩
                      rw [show zSg (g 99) q = zhe (g1 99) n h q by rw [zhe_S hq2.1 hq2.2, hg99]] at hz
                      rcases hz with hz | hz
                      · exact hne hz
                      · exact hcc hz
                    · exact Or.inr ⟨by omega, by omega⟩
                  · refine lv_aload_n C.1 C.2.1 (zda zDX8_rota 23 rfl rfl) rfl (lv_at hlv 2 rfl) ?_
                    refine zV_callV C (zr_fineF (U := Int32.ofNat q) rfl (zne1 (by omega))) rfl rfl (by decide) (by decide) (show vwCl[8]? = some (RX8, TX8, 51) from rfl) zw1352 zw1349 zw1351 zs98 zw16 (n := 0) (by decide +kernel) (zda zDX8_rota 24 rfl rfl) rfl zvk94 (show 94 < 126 by decide) hv hlv.1 (by show 0 ≤ 8; decide) (Nat.zero_le _) (Nat.zero_le _) (fun v f9 g9 ws H locs hp hv => ?_)
                    obtain ⟨rfl, rfl, rfl⟩ := hp
                    refine lv_if_eq C.1 C.2.1 (zda zDX8_rota 27 rfl rfl) (tgt := 102) (by decide) (fun h27 => ?_) (fun h27 => ?_)
                    · refine fin _ q _ _ _ _ _ _ ls hv hK hy1 h11 hg2 hg99 ⟨hR, hL, hT, hA, rfl, hn8, ht, ha⟩ (Or.inr ⟨rfl, by omega, by omega, hval, ?_⟩) (lv_sub hlv [0, 2] rfl)
                      by_cases hq2 : q < n ∧ q < h
                      · refine Or.inl ⟨hq2.1, hq2.2, fun hz => ?_⟩
                        rw [show zSg (g 99) q = zhe (g1 99) n h q by rw [zhe_S hq2.1 hq2.2, hg99]] at hz
                        rcases hz with hz | hz
                        · exact hne hz
                        · exact hcc hz
                      · exact Or.inr ⟨by omega, by omega⟩
                    · exact absurd rfl h27
          · have hhe : (zhe (g1 99) n h q).toInt = 45 := by rw [h36, zi45]
            refine lv_iconst C.1 C.2.1 (zda zDX8_rota 39 rfl rfl) rfl ?_
            refine lv_goto C.1 C.2.1 (zda zDX8_rota 40 rfl rfl) (tgt := 50) (by decide) ?_
            refine lv_istore_n C.1 C.2.1 (zda zDX8_rota 50 rfl rfl) rfl hlv (lv' := [(2, .int (Int32.ofInt (-1))), (1, .int (Int32.ofNat q)), (0, .ref (b 94))]) (by decide) rfl (fun ls hlv => ?_)
            refine lv_aload_n C.1 C.2.1 (zda zDX8_rota 51 rfl rfl) rfl (lv_at hlv 2 rfl) ?_
            refine zV_callV C (zr_here hr1) rfl rfl (by decide) (by decide) (show vwCl[8]? = some (RX8, TX8, 51) from rfl) zw1368 zw1365 zw1367 zs102 zw16 (n := 0) (by decide +kernel) (zda zDX8_rota 52 rfl rfl) rfl zvk94 (show 94 < 126 by decide) hv hlv.1 (by show 0 ≤ 8; decide) (Nat.zero_le _) (Nat.zero_le _) (fun v f9 g9 ws H locs hp hv => ?_)
            obtain ⟨rfl, rfl, rfl⟩ := hp
            refine lv_bipush C.1 C.2.1 (zda zDX8_rota 55 rfl rfl) rfl ?_
            refine lv_icmp_eq C.1 C.2.1 (zda zDX8_rota 57 rfl rfl) (tgt := 79) (by decide) (fun h57 => ?_) (fun h57 => ?_)
            · have hlt : q < n ∧ q < h := by
                by_cases hq2 : q < n ∧ q < h
                · exact hq2
                · exfalso
                  rw [zhe_o hq2] at hhe
                  rw [zm1] at hhe
                  omega
              have hS : zhe (g1 99) n h q = zSg (g 99) q := by rw [zhe_S hlt.1 hlt.2, hg99]
              have hq1 := zon (show q + 1 < 1000 by omega)
              refine lv_aload_n C.1 C.2.1 (zda zDX8_rota 79 rfl rfl) rfl (lv_at hlv 2 rfl) ?_
              refine lv_dup C.1 C.2.1 (zda zDX8_rota 80 rfl rfl) rfl ?_
              refine zV_get C (zda zDX8_rota 81 rfl rfl) (show vwCl[8]? = some (RX8, TX8, 51) from rfl) zinX8 (by decide) zw1187 hv zvk94 (show 94 < 126 by decide) rfl (j := 15) hA ?_
              refine lv_iconst C.1 C.2.1 (zda zDX8_rota 84 rfl rfl) rfl ?_
              refine lv_iadd C.1 C.2.1 (zda zDX8_rota 85 rfl rfl) ?_
              refine zV_puti C (zda zDX8_rota 86 rfl rfl) (show vwCl[8]? = some (RX8, TX8, 51) from rfl) zinX8 tyX8 tyX8_ok nmX8 (j := 15) (by decide) zw1187 rfl (by decide +kernel) hv zvk94 (show 94 < 126 by decide) rfl ⟨by show (0 : Int) ≤ _; (rw [zsuc (by omega)]; omega), by show _ ≤ (76 : Int); (rw [zsuc (by omega)]; omega)⟩ (fun ws H locs hv => ?_)
              rw [zsuc (show q < 1000 by omega)] at hv
              refine lv_aload_n C.1 C.2.1 (zda zDX8_rota 89 rfl rfl) rfl (lv_at hlv 2 rfl) ?_
              refine zV_get C (zda zDX8_rota 90 rfl rfl) (show vwCl[8]? = some (RX8, TX8, 51) from rfl) zinX8 (by decide) zw1189 hv zvk94 (show 94 < 126 by decide) rfl (j := 17) (zV_ref hv zvk94 (show 94 < 126 by decide) rfl) ?_
              refine lv_iload_n C.1 C.2.1 (zda zDX8_rota 93 rfl rfl) rfl (lv_at hlv 1 rfl) ?_
              refine lv_iload_n C.1 C.2.1 (zda zDX8_rota 94 rfl rfl) rfl (lv_at hlv 0 rfl) ?_
              refine zV_st0 C (zda zDX8_rota 95 rfl rfl) hv zvk101 (show 101 < 126 by decide) (i := q) (hq9) (by omega) (zelr_ok zve101 (by omega) (by show (-1000 : Int) ≤ _; decide) (by show _ ≤ (1000 : Int); decide)) (fun ws H locs hv => ?_)
              refine lv_iinc C.1 C.2.1 (zda zDX8_rota 96 rfl rfl) hlv (k := 1) rfl rfl (by decide) (lv' := [(1, .int ((Int32.ofNat q) + Int32.ofInt 1)), (2, .int (Int32.ofInt (-1))), (0, .ref (b 94))]) rfl (fun ls hlv => ?_)
              refine lv_goto C.1 C.2.1 (zda zDX8_rota 99 rfl rfl) (tgt := 15) (by decide) ?_
              rw [zsuc (show q < 1000 by omega)] at hlv
              refine ih (q + 1) _ _ ws H locs ls (by omega) (by omega) (by omega) hv hK hy1 h11 (zOtA_u hoA) ⟨hR, hL, hT, rfl, hU, hn8, ht, by omega⟩ (fun p hp => ?_) (fun p hp => ?_) (lv_sub hlv [0, 2] rfl)
              · rcases Nat.lt_or_ge p q with h9 | h9
                · exact hval p h9
                · rw [show p = q by omega, ← hS]
                  exact Or.inl hhe
              · show (upd (g1 101) q _ p).toInt = _
                unfold upd
                rcases Nat.lt_or_ge p q with h9 | h9
                · rw [if_neg (by omega)]
                  exact hcm p h9
                · rw [if_pos (by omega), show p = q by omega]
                  unfold zvs
                  rw [← hS]
                  rw [if_pos hhe]; decide
            · exact absurd h36 h57
  refine lv_aload_n C.1 C.2.1 (zda zDX8_rota 0 rfl rfl) rfl (lv_at hlv 0 rfl) ?_
  refine lv_iconst C.1 C.2.1 (zda zDX8_rota 1 rfl rfl) rfl ?_
  refine zV_puti C (zda zDX8_rota 2 rfl rfl) (show vwCl[8]? = some (RX8, TX8, 51) from rfl) zinX8 tyX8 tyX8_ok nmX8 (j := 11) (by decide) zw1183 rfl (by decide +kernel) hv zvk94 (show 94 < 126 by decide) rfl ⟨by show (0 : Int) ≤ _; decide, by show _ ≤ (1 : Int); decide⟩ (fun ws H locs hv => ?_)
  refine lv_aload_n C.1 C.2.1 (zda zDX8_rota 5 rfl rfl) rfl (lv_at hlv 0 rfl) ?_
  refine lv_aload_n C.1 C.2.1 (zda zDX8_rota 6 rfl rfl) rfl (lv_at hlv 0 rfl) ?_
  refine zV_get C (zda zDX8_rota 7 rfl rfl) (show vwCl[8]? = some (RX8, TX8, 51) from rfl) zinX8 (by decide) zw1173 hv zvk94 (show 94 < 126 by decide) rfl (j := 1) hH ?_
  refine zV_callV C (zr_bt (f := zuv f 94 11 (.int (Int32.ofInt 0))) (n := n) (t := h) hy hn (by omega)) rfl rfl (by decide) (by decide) (show vwCl[8]? = some (RX8, TX8, 51) from rfl) zw1344 zw1341 zw1343 zs96 zw16 (n := 1) (by decide +kernel) (zda zDX8_rota 10 rfl rfl) rfl zvk94 (show 94 < 126 by decide) hv hlv.1 (by show 0 ≤ 8; decide) (Nat.zero_le _) (Nat.zero_le _) (fun v f9 g9 ws H locs hp hv => ?_)
  obtain ⟨rfl, rfl, rfl⟩ := hp
  refine lv_iconst C.1 C.2.1 (zda zDX8_rota 13 rfl rfl) rfl ?_
  rw [zo00]
  refine lv_istore_n C.1 C.2.1 (zda zDX8_rota 14 rfl rfl) rfl hlv (lv' := [(1, .int (Int32.ofNat 0)), (0, .ref (b 94))]) (by decide) rfl (fun ls hlv => ?_)
  exact loop (h + 1) 0 _ _ _ _ _ ls (by omega) (by omega) (by omega) hv ⟨rfl, rfl, rfl, rfl⟩ rfl rfl zOtA_rf ⟨rfl, rfl, rfl, rfl, rfl, hn, by omega, by omega⟩ (fun p hp => absurd hp (Nat.not_lt_zero p)) (fun p hp => absurd hp (Nat.not_lt_zero p)) hlv
end ZROT2
