/-- what riders() answers, and how many riders came -/
def zAn (c : Nat) (S : Nat → Int32) (n : Nat) (ans : Int32) (c' : Nat) : Prop := (n = 0 ∧ ans = Int32.ofNat 0 ∧ c' = c) ∨ (0 < n ∧ (∃ w, (zFl c S n 76 w ∨ (w = 76 ∧ 76 < n ∧ ∃ q, zD c S 76 = some q)) ∧ ans = Int32.ofInt (-1) - Int32.ofNat w ∧ c' = c)) ∨ (0 < n ∧ n ≤ 76 ∧ ∃ l k, zD c S n = some (2, l, k) ∧ ans = Int32.ofNat l ∧ c' = c + l)
theorem zD_none {c : Nat} {S : Nat → Int32} {p : Nat} (h : zD c S p = none) : ∀ k, zD c S (p + k) = none
  | 0 => h
  | k + 1 => by
    show (match zD c S (p + k) with
      | none => none
      | some q => zds c (S (p + k)).toInt q) = none
    rw [zD_none h k]
theorem zD_nle {c : Nat} {S : Nat → Int32} {p q : Nat} (h : zD c S p = none) (hq : p ≤ q) : zD c S q = none := by
  have := zD_none h (q - p)
  rw [show p + (q - p) = q by omega] at this
  exact this
/-- there is one place -/
theorem zFl_one {c : Nat} {S : Nat → Int32} {n t w w' : Nat} (h : zFl c S n t w) (h' : zFl c S n t w') : w = w' := by
  have key : ∀ {w w'}, zFl c S n t w → zFl c S n t w' → ¬ w < w' := by
    intro w w' h h' hl
    obtain ⟨q, h1, h2, h3, h4⟩ := h
    obtain ⟨q', h1', h2', h3', h4'⟩ := h'
    rcases h4 with ⟨-, -, h5⟩ | ⟨h5, -⟩
    · rw [zD_nle h5 (by omega)] at h1'
      cases h1'
    · omega
  rcases Nat.lt_trichotomy w w' with r | r | r
  · exact absurd r (key h h')
  · exact r
  · exact absurd r (key h' h)
theorem zAn_one {c : Nat} {S : Nat → Int32} {n : Nat} {x x' : Int32} {d d' : Nat} (h : zAn c S n x d) (h' : zAn c S n x' d') : x = x' ∧ d = d' := by
  have no1 : ∀ {w q : _}, zFl c S n 76 w → zD c S 76 = some q → 76 < n → w = 76 ∧ q.1 < 2 := by
    intro w q h1 h2 h3
    obtain ⟨q9, k1, k2, k3, k4⟩ := h1
    rcases k4 with ⟨k5, k6, k7⟩ | ⟨k5, k6⟩
    · rw [zD_nle k7 (by omega)] at h2
      cases h2
    · have : w = 76 := by omega
      subst this
      rw [k1] at h2
      cases h2
      exact ⟨rfl, k6⟩
  have no2 : ∀ {w l k : Nat}, zFl c S n 76 w → n ≤ 76 → zD c S n = some (2, l, k) → False := by
    intro w l k h1 h2 h3
    obtain ⟨q9, k1, k2, k3, k4⟩ := h1
    rcases k4 with ⟨k5, k6, k7⟩ | ⟨k5, k6⟩
    · rw [zD_nle k7 (by omega)] at h3
      cases h3
    · have : w = n := by omega
      subst this
      rw [k1] at h3
      cases h3
      exact absurd k6 (by show ¬ 2 < 2; decide)
  rcases h with ⟨h0, h1, h2⟩ | ⟨h0, w, hw, h1, h2⟩ | ⟨h0, hn, l, k, hD, h1, h2⟩
  · rcases h' with ⟨h0', h1', h2'⟩ | ⟨h0', -⟩ | ⟨h0', -⟩
    · exact ⟨h1.trans h1'.symm, by omega⟩
    · omega
    · omega
  · rcases h' with ⟨h0', -⟩ | ⟨h0', w', hw', h1', h2'⟩ | ⟨h0', hn', l', k', hD', h1', h2'⟩
    · omega
    · have e : w = w' := by
        rcases hw with hw | ⟨e1, e2, q, e3⟩
        · rcases hw' with hw' | ⟨e1, e2, q, e3⟩
          · exact zFl_one hw hw'
          · rw [(no1 hw e3 e2).1, e1]
        · rcases hw' with hw' | ⟨e1', -⟩
          · rw [(no1 hw' e3 e2).1, e1]
          · omega
      subst e
      exact ⟨h1.trans h1'.symm, by omega⟩
    · exfalso
      rcases hw with hw | ⟨e1, e2, -⟩
      · exact no2 hw hn' hD'
      · omega
  · rcases h' with ⟨h0', -⟩ | ⟨h0', w', hw', h1', h2'⟩ | ⟨h0', hn', l', k', hD', h1', h2'⟩
    · omega
    · exfalso
      rcases hw' with hw' | ⟨e1, e2, -⟩
      · exact no2 hw' hn hD
      · omega
    · rw [hD] at hD'
      cases hD'
      exact ⟨h1.trans h1'.symm, by omega⟩
theorem zimul {n : Nat} (h : n < 100) : Int32.ofInt 3 * Int32.ofNat n = Int32.ofNat (3 * n) := by
  apply Int32.toInt_inj.mp
  rw [Int32.toInt_mul, zon (by omega), zon (by omega), show (Int32.ofInt 3).toInt = 3 by decide, zbm (B := 2147483648) (by decide) (by omega) (by omega)]
  omega
theorem zofn {a k : Nat} (ha : a < 1000) (hk : k < 1000) : Int32.ofNat a + Int32.ofNat k = Int32.ofNat (a + k) := zofa ha hk (zon hk)
theorem zo11 : Int32.ofInt 1 = Int32.ofNat 1 := by decide
theorem zi76 : (Int8.ofInt 76).toInt32 = Int32.ofNat 76 := by decide
theorem zi8 : (Int8.ofInt 8).toInt32 = Int32.ofNat 8 := by decide
theorem zi16 : (Int8.ofInt 16).toInt32 = Int32.ofNat 16 := by decide
theorem zi59 : ((Int8.ofInt 59).toInt32).toInt = 59 := by decide
/-- slots that riders() leaves as they are -/
def zOtR (f f' : Nat → Nat → Value) : Prop := ∀ k j, ¬ (k = 94 ∧ (j = 3 ∨ j = 8 ∨ (11 ≤ j ∧ j ≤ 16) ∨ j = 24 ∨ j = 47)) → f' k j = f k j
theorem zOtR_rf {f : Nat → Nat → Value} : zOtR f f := fun _ _ _ => rfl
theorem zuv_n {f : Nat → Nat → Value} {k0 j0 k j : Nat} {v : Value} (h : ¬ (k = k0 ∧ j = j0)) : zuv f k0 j0 v k j = f k j := by
  unfold zuv
  by_cases hk : k = k0
  · rw [zbq_f (fun q => h ⟨hk, q⟩), Bool.and_false]
  · rw [zbq_f hk, Bool.false_and]
theorem zOtR_u {f f' : Nat → Nat → Value} {v : Value} {j0 : Nat} (h : zOtR f f') (h0 : j0 = 3 ∨ j0 = 8 ∨ (11 ≤ j0 ∧ j0 ≤ 16) ∨ j0 = 24 ∨ j0 = 47 := by decide) : zOtR f (zuv f' 94 j0 v) := by
  intro k j hk
  rw [← h k j hk]
  exact zuv_n (by omega)
theorem zOtR_o {f f' f'' : Nat → Nat → Value} (h : zOtR f f') (h' : zOth f' f'') : zOtR f f'' := fun k j hk => (h' k j (by omega)).trans (h k j hk)
/-- arrays of the reference that riders() writes -/
def zOtB (g g' : Nat → Nat → Int32) : Prop := ∀ k, k ≠ 101 → k ≠ 95 → k ≠ 96 → k ≠ 97 → k ≠ 98 → g' k = g k
theorem zOtB_a {g g' : Nat → Nat → Int32} (h : zOtA g g') : zOtB g g' := fun k h1 _ _ _ _ => h k h1
theorem zOtA_t {g g' g'' : Nat → Nat → Int32} (h : zOtA g g') (h' : zOtA g' g'') : zOtA g g'' := fun k hk => (h' k hk).trans (h k hk)
theorem zOtB_u {g g' : Nat → Nat → Int32} {k0 i : Nat} {v : Int32} (h : zOtB g g') (hk : k0 = 101 ∨ k0 = 95 ∨ k0 = 96 ∨ k0 = 97 ∨ k0 = 98) : zOtB g (zua g' k0 i v) := by
  intro k h1 h2 h3 h4 h5
  rw [← h k h1 h2 h3 h4 h5]
  unfold zua
  rw [zbq_f (by omega)]
section ZRID
variable {l0 : Launch} {D : va_G} {tys : List (ClassId × FieldType)} {o : zO} {z : Nat} {b : Nat → Nat} {f : Nat → Nat → Value} {g : Nat → Nat → Int32}
theorem zcm_t : zfor (fun i => zele zvf101 (-1000) 1000 i || Nat.beq (i % 3) 2) 24 = true := by decide +kernel
theorem zcm {H0 H : Heap} {ws : va_W} {locs : List Loc} {g1 : Nat → Nat → Int32} {f1 : Nat → Nat → Value} (hv : zV zyI D tys o z H0 b f1 g1 ws H locs) {i : Nat} (hi : i < 24) (h3 : i % 3 ≠ 2) : -1000 ≤ (g1 101 i).toInt ∧ (g1 101 i).toInt ≤ 1000 := by
  obtain ⟨cA, hA, h1, h2⟩ := zV_ar0 hv zvk101 (show 101 < 126 by decide)
  obtain ⟨a, h4, h6⟩ := h2 i hi
  have h5 := zfor_ok zcm_t i hi
  rw [zbq_f h3, Bool.or_false] at h5
  unfold zele at h5
  rw [h4] at h5
  split at h5
  · rename_i a0 ha
    cases ha
    simp only [Bool.and_eq_true, zle_iff] at h5
    obtain ⟨x, hx, h7, h8⟩ := h6
    cases hx
    exact ⟨by omega, by omega⟩
  · cases h5
set_option maxHeartbeats 8000000 in
theorem zr_riders {c n : Nat} (hM : f 94 3 = .int (Int32.ofNat c)) (hy : f 94 8 = .int (Int32.ofNat n)) (hc : c ≤ 8) (hn : n ≤ 80) : zCt l0 D tys o z zyI b mX8_riders 20 2500 [.ref (b 94)] f g (fun v f' g' => ∃ ans c', v = some (.int ans) ∧ f' 94 3 = .int (Int32.ofNat c') ∧ f' 94 8 = .int (Int32.ofNat 0) ∧ zOtR f f' ∧ zOtB g g' ∧ zAn c (zSg (g 99)) n ans c') := by
  refine zCt_of (mr := mX8_riders) (by decide) (by decide) (by decide) (show 1 ≤ 4 by decide) rfl rfl ?_
  intro p e s m below meth c0 Q ls ws C hret hv hlv
  replace C : zCx p { frames := 20, cells := 0, slots := 0, locals := 2500 } s m ([.ref (b 94)] : List Value).toArray meth c0 D vwCl tys z (zXX o z) zTs RX8 cX8_riders 4 "riders" := C
  have hlv : lv_has ls 4 [(0, .ref (b 94))] := hlv
  have copy : ∀ (fuel : Nat) (f1 : Nat → Nat → Value) (g1 : Nat → Nat → Int32) (ws : va_W) (H : Heap) (locs : List Loc) (ls : Array Slot) (k l : Nat) (x2 : Int32), l - k < fuel → k ≤ l → c + l ≤ 8 → zV zyI D tys o z s.heap b f1 g1 ws H locs → zOtR f f1 → zOtB g g1 → f1 94 8 = .int (Int32.ofNat 0) → f1 94 3 = .int (Int32.ofNat (c + k)) → zAn c (zSg (g 99)) n (Int32.ofNat l) (c + l) → lv_has ls 4 [(3, .int (Int32.ofNat k)), (1, .int (Int32.ofNat l)), (2, .int x2), (0, .ref (b 94))] → W p l0 e { frames := 20, cells := 0, slots := 0, locals := 2500 } s m ([.ref (b 94)] : List Value).toArray below meth c0 H locs 0 0 Q (F0 m 93 ls []) := by
    intro fuel
    induction fuel with
    | zero => intro f1 g1 ws H locs ls k l x2 h; omega
    | succ fuel ih =>
      intro f1 g1 ws H locs ls k l x2 hfu hkl hcl hv ho hoB hy1 hM1 hAn hlv
      refine lv_iload_n C.1 C.2.1 (zda zDX8_riders 93 rfl rfl) rfl (lv_at hlv 0 rfl) ?_
      refine lv_iload_n C.1 C.2.1 (zda zDX8_riders 94 rfl rfl) rfl (lv_at hlv 1 rfl) ?_
      refine lv_icmp_ge C.1 C.2.1 (zda zDX8_riders 95 rfl rfl) (tgt := 195) (by decide) (fun h95 => ?_) (fun h95 => ?_)
      · rw [zol (by omega) (by omega)] at h95
        have hkl2 : k = l := by omega
        subst hkl2
        refine lv_aload_n C.1 C.2.1 (zda zDX8_riders 195 rfl rfl) rfl (lv_at hlv 3 rfl) ?_
        refine lv_iconst C.1 C.2.1 (zda zDX8_riders 196 rfl rfl) rfl ?_
        refine zV_puti C (zda zDX8_riders 197 rfl rfl) (show vwCl[8]? = some (RX8, TX8, 51) from rfl) zinX8 tyX8 tyX8_ok nmX8 (j := 24) (by decide) zw1196 rfl (by decide +kernel) hv zvk94 (show 94 < 126 by decide) rfl ⟨by show (0 : Int) ≤ _; decide, by show _ ≤ (12 : Int); decide⟩ (fun ws H locs hv => ?_)
        obtain ⟨xc, hxc, -⟩ := zV_int hv zvk94 (show 94 < 126 by decide) (j := 47) rfl
        refine lv_aload_n C.1 C.2.1 (zda zDX8_riders 200 rfl rfl) rfl (lv_at hlv 3 rfl) ?_
        refine lv_dup C.1 C.2.1 (zda zDX8_riders 201 rfl rfl) rfl ?_
        refine zV_get C (zda zDX8_riders 202 rfl rfl) (show vwCl[8]? = some (RX8, TX8, 51) from rfl) zinX8 (by decide) zw1219 hv zvk94 (show 94 < 126 by decide) rfl (j := 47) hxc ?_
        refine lv_iconst C.1 C.2.1 (zda zDX8_riders 205 rfl rfl) rfl ?_
        refine lv_iadd C.1 C.2.1 (zda zDX8_riders 206 rfl rfl) ?_
        refine zV_puti C (zda zDX8_riders 207 rfl rfl) (show vwCl[8]? = some (RX8, TX8, 51) from rfl) zinX8 tyX8 tyX8_ok nmX8 (j := 47) (by decide) zw1219 rfl (by decide +kernel) hv zvk94 (show 94 < 126 by decide) rfl ⟨by show (-2147483648 : Int) ≤ _; exact (z32 _).1, by show _ ≤ (2147483647 : Int); exact (z32 _).2⟩ (fun ws H locs hv => ?_)
        refine lv_iload_n C.1 C.2.1 (zda zDX8_riders 210 rfl rfl) rfl (lv_at hlv 1 rfl) ?_
        exact hret 211 ls (some _) _ _ _ _ _ (Or.inl ⟨_, .int, rfl, rfl, rfl, (zda zDX8_riders 211 rfl rfl)⟩) hv (⟨_, _, rfl, hM1, hy1, zOtR_u (zOtR_u ho), hoB, hAn⟩)
      · rw [zol (by omega) (by omega)] at h95
        have hk3 := zon (show 3 * k < 1000 by omega)
        have hck := zon (show c + k < 1000 by omega)
        refine lv_aload_n C.1 C.2.1 (zda zDX8_riders 98 rfl rfl) rfl (lv_at hlv 3 rfl) ?_
        refine zV_get C (zda zDX8_riders 99 rfl rfl) (show vwCl[8]? = some (RX8, TX8, 51) from rfl) zinX8 (by decide) zw1176 hv zvk94 (show 94 < 126 by decide) rfl (j := 4) (zV_ref hv zvk94 (show 94 < 126 by decide) rfl) ?_
        refine lv_aload_n C.1 C.2.1 (zda zDX8_riders 102 rfl rfl) rfl (lv_at hlv 3 rfl) ?_
        refine zV_get C (zda zDX8_riders 103 rfl rfl) (show vwCl[8]? = some (RX8, TX8, 51) from rfl) zinX8 (by decide) zw1175 hv zvk94 (show 94 < 126 by decide) rfl (j := 3) hM1 ?_
        refine lv_aload_n C.1 C.2.1 (zda zDX8_riders 106 rfl rfl) rfl (lv_at hlv 3 rfl) ?_
        refine zV_get C (zda zDX8_riders 107 rfl rfl) (show vwCl[8]? = some (RX8, TX8, 51) from rfl) zinX8 (by decide) zw1189 hv zvk94 (show 94 < 126 by decide) rfl (j := 17) (zV_ref hv zvk94 (show 94 < 126 by decide) rfl) ?_
        refine lv_iconst C.1 C.2.1 (zda zDX8_riders 110 rfl rfl) rfl ?_
        refine lv_iload_n C.1 C.2.1 (zda zDX8_riders 111 rfl rfl) rfl (lv_at hlv 0 rfl) ?_
        refine lv_imul C.1 C.2.1 (zda zDX8_riders 112 rfl rfl) ?_
        refine zV_ld0 C (zda zDX8_riders 113 rfl rfl) hv zvk101 (show 101 < 126 by decide) (i := 3 * k) (by rw [zimul (by omega)]; exact hk3) (by omega) ?_
        have q0 := zcm hv (i := 3 * k) (by omega) (by omega)
        refine zV_st0 C (zda zDX8_riders 114 rfl rfl) hv zvk96 (show 96 < 126 by decide) (i := c + k) (hck) (by omega) (zelr_ok zve96 (by omega) (by show (-1000 : Int) ≤ _; omega) (by show _ ≤ (1000 : Int); omega)) (fun ws H locs hv => ?_)
        refine lv_aload_n C.1 C.2.1 (zda zDX8_riders 115 rfl rfl) rfl (lv_at hlv 3 rfl) ?_
        refine zV_get C (zda zDX8_riders 116 rfl rfl) (show vwCl[8]? = some (RX8, TX8, 51) from rfl) zinX8 (by decide) zw1177 hv zvk94 (show 94 < 126 by decide) rfl (j := 5) (zV_ref hv zvk94 (show 94 < 126 by decide) rfl) ?_
        refine lv_aload_n C.1 C.2.1 (zda zDX8_riders 119 rfl rfl) rfl (lv_at hlv 3 rfl) ?_
        refine zV_get C (zda zDX8_riders 120 rfl rfl) (show vwCl[8]? = some (RX8, TX8, 51) from rfl) zinX8 (by decide) zw1175 hv zvk94 (show 94 < 126 by decide) rfl (j := 3) hM1 ?_
        refine lv_aload_n C.1 C.2.1 (zda zDX8_riders 123 rfl rfl) rfl (lv_at hlv 3 rfl) ?_
        refine zV_get C (zda zDX8_riders 124 rfl rfl) (show vwCl[8]? = some (RX8, TX8, 51) from rfl) zinX8 (by decide) zw1189 hv zvk94 (show 94 < 126 by decide) rfl (j := 17) (zV_ref hv zvk94 (show 94 < 126 by decide) rfl) ?_
        refine lv_iconst C.1 C.2.1 (zda zDX8_riders 127 rfl rfl) rfl ?_
        refine lv_iload_n C.1 C.2.1 (zda zDX8_riders 128 rfl rfl) rfl (lv_at hlv 0 rfl) ?_
        refine lv_imul C.1 C.2.1 (zda zDX8_riders 129 rfl rfl) ?_
        refine lv_iconst C.1 C.2.1 (zda zDX8_riders 130 rfl rfl) rfl ?_
        refine lv_iadd C.1 C.2.1 (zda zDX8_riders 131 rfl rfl) ?_
        refine zV_ld0 C (zda zDX8_riders 132 rfl rfl) hv zvk101 (show 101 < 126 by decide) (i := 3 * k + 1) (by rw [zimul (by omega), zofa (k := 1) (by omega) (by decide) (by decide), zon (by omega)]) (by omega) ?_
        have q1 := zcm hv (i := 3 * k + 1) (by omega) (by omega)
        refine zV_st0 C (zda zDX8_riders 133 rfl rfl) hv zvk97 (show 97 < 126 by decide) (i := c + k) (hck) (by omega) (zelr_ok zve97 (by omega) (by show (-1000 : Int) ≤ _; omega) (by show _ ≤ (1000 : Int); omega)) (fun ws H locs hv => ?_)
        refine lv_aload_n C.1 C.2.1 (zda zDX8_riders 134 rfl rfl) rfl (lv_at hlv 3 rfl) ?_
        refine zV_get C (zda zDX8_riders 135 rfl rfl) (show vwCl[8]? = some (RX8, TX8, 51) from rfl) zinX8 (by decide) zw1178 hv zvk94 (show 94 < 126 by decide) rfl (j := 6) (zV_ref hv zvk94 (show 94 < 126 by decide) rfl) ?_
        refine lv_aload_n C.1 C.2.1 (zda zDX8_riders 138 rfl rfl) rfl (lv_at hlv 3 rfl) ?_
        refine zV_get C (zda zDX8_riders 139 rfl rfl) (show vwCl[8]? = some (RX8, TX8, 51) from rfl) zinX8 (by decide) zw1175 hv zvk94 (show 94 < 126 by decide) rfl (j := 3) hM1 ?_
        refine lv_aload_n C.1 C.2.1 (zda zDX8_riders 142 rfl rfl) rfl (lv_at hlv 3 rfl) ?_
        refine zV_get C (zda zDX8_riders 143 rfl rfl) (show vwCl[8]? = some (RX8, TX8, 51) from rfl) zinX8 (by decide) zw1189 hv zvk94 (show 94 < 126 by decide) rfl (j := 17) (zV_ref hv zvk94 (show 94 < 126 by decide) rfl) ?_
        refine lv_iconst C.1 C.2.1 (zda zDX8_riders 146 rfl rfl) rfl ?_
        refine lv_iload_n C.1 C.2.1 (zda zDX8_riders 147 rfl rfl) rfl (lv_at hlv 0 rfl) ?_
        refine lv_imul C.1 C.2.1 (zda zDX8_riders 148 rfl rfl) ?_
        refine lv_iconst C.1 C.2.1 (zda zDX8_riders 149 rfl rfl) rfl ?_
        refine lv_iadd C.1 C.2.1 (zda zDX8_riders 150 rfl rfl) ?_
        refine zV_ld0 C (zda zDX8_riders 151 rfl rfl) hv zvk101 (show 101 < 126 by decide) (i := 3 * k + 2) (by rw [zimul (by omega), zofa (k := 2) (by omega) (by decide) (by decide), zon (by omega)]) (by omega) ?_
        refine zV_st0 C (zda zDX8_riders 152 rfl rfl) hv zvk98 (show 98 < 126 by decide) (i := c + k) (hck) (by omega) (zelr_ok zve98 (by omega) (by show (-2147483648 : Int) ≤ _; exact (z32 _).1) (by show _ ≤ (2147483647 : Int); exact (z32 _).2)) (fun ws H locs hv => ?_)
        refine lv_aload_n C.1 C.2.1 (zda zDX8_riders 153 rfl rfl) rfl (lv_at hlv 3 rfl) ?_
        refine zV_get C (zda zDX8_riders 154 rfl rfl) (show vwCl[8]? = some (RX8, TX8, 51) from rfl) zinX8 (by decide) zw1172 hv zvk94 (show 94 < 126 by decide) rfl (j := 0) (zV_ref hv zvk94 (show 94 < 126 by decide) rfl) ?_
        refine lv_bipush C.1 C.2.1 (zda zDX8_riders 157 rfl rfl) rfl ?_
        refine lv_aload_n C.1 C.2.1 (zda zDX8_riders 159 rfl rfl) rfl (lv_at hlv 3 rfl) ?_
        refine zV_get C (zda zDX8_riders 160 rfl rfl) (show vwCl[8]? = some (RX8, TX8, 51) from rfl) zinX8 (by decide) zw1175 hv zvk94 (show 94 < 126 by decide) rfl (j := 3) hM1 ?_
        refine lv_iadd C.1 C.2.1 (zda zDX8_riders 163 rfl rfl) ?_
        refine lv_iconst C.1 C.2.1 (zda zDX8_riders 164 rfl rfl) rfl ?_
        refine zV_st0 C (zda zDX8_riders 165 rfl rfl) hv zvk95 (show 95 < 126 by decide) (i := 8 + (c + k)) (by rw [zi8, zofn (by omega) (by omega), zon (by omega)]) (by omega) (zelr_ok zve95 (by omega) (by show (0 : Int) ≤ _; decide) (by show _ ≤ (1 : Int); decide)) (fun ws H locs hv => ?_)
        refine lv_aload_n C.1 C.2.1 (zda zDX8_riders 166 rfl rfl) rfl (lv_at hlv 3 rfl) ?_
        refine zV_get C (zda zDX8_riders 167 rfl rfl) (show vwCl[8]? = some (RX8, TX8, 51) from rfl) zinX8 (by decide) zw1172 hv zvk94 (show 94 < 126 by decide) rfl (j := 0) (zV_ref hv zvk94 (show 94 < 126 by decide) rfl) ?_
        refine lv_bipush C.1 C.2.1 (zda zDX8_riders 170 rfl rfl) rfl ?_
        refine lv_aload_n C.1 C.2.1 (zda zDX8_riders 172 rfl rfl) rfl (lv_at hlv 3 rfl) ?_
        refine zV_get C (zda zDX8_riders 173 rfl rfl) (show vwCl[8]? = some (RX8, TX8, 51) from rfl) zinX8 (by decide) zw1175 hv zvk94 (show 94 < 126 by decide) rfl (j := 3) hM1 ?_
        refine lv_iadd C.1 C.2.1 (zda zDX8_riders 176 rfl rfl) ?_
        refine lv_iconst C.1 C.2.1 (zda zDX8_riders 177 rfl rfl) rfl ?_
        refine zV_st0 C (zda zDX8_riders 178 rfl rfl) hv zvk95 (show 95 < 126 by decide) (i := 16 + (c + k)) (by rw [zi16, zofn (by omega) (by omega), zon (by omega)]) (by omega) (zelr_ok zve95 (by omega) (by show (0 : Int) ≤ _; decide) (by show _ ≤ (1 : Int); decide)) (fun ws H locs hv => ?_)
        refine lv_aload_n C.1 C.2.1 (zda zDX8_riders 179 rfl rfl) rfl (lv_at hlv 3 rfl) ?_
        refine lv_dup C.1 C.2.1 (zda zDX8_riders 180 rfl rfl) rfl ?_
        refine zV_get C (zda zDX8_riders 181 rfl rfl) (show vwCl[8]? = some (RX8, TX8, 51) from rfl) zinX8 (by decide) zw1175 hv zvk94 (show 94 < 126 by decide) rfl (j := 3) hM1 ?_
        refine lv_iconst C.1 C.2.1 (zda zDX8_riders 184 rfl rfl) rfl ?_
        refine lv_iadd C.1 C.2.1 (zda zDX8_riders 185 rfl rfl) ?_
        have hck1 := zon (show c + k + 1 < 1000 by omega)
        refine zV_puti C (zda zDX8_riders 186 rfl rfl) (show vwCl[8]? = some (RX8, TX8, 51) from rfl) zinX8 tyX8 tyX8_ok nmX8 (j := 3) (by decide) zw1175 rfl (by decide +kernel) hv zvk94 (show 94 < 126 by decide) rfl ⟨by show (0 : Int) ≤ _; (rw [zsuc (by omega)]; omega), by show _ ≤ (8 : Int); (rw [zsuc (by omega)]; omega)⟩ (fun ws H locs hv => ?_)
        refine lv_iinc C.1 C.2.1 (zda zDX8_riders 189 rfl rfl) hlv (k := 0) rfl rfl (by decide) (lv' := [(3, .int ((Int32.ofNat k) + Int32.ofInt 1)), (1, .int (Int32.ofNat l)), (2, .int (x2)), (0, .ref (b 94))]) rfl (fun ls hlv => ?_)
        refine lv_goto C.1 C.2.1 (zda zDX8_riders 192 rfl rfl) (tgt := 93) (by decide) ?_
        rw [zsuc (show c + k < 1000 by omega)] at hv
        refine ih _ _ ws H locs ls (k + 1) l x2 (by omega) (by omega) hcl hv (zOtR_u ho) (zOtB_u (zOtB_u (zOtB_u (zOtB_u (zOtB_u hoB (by omega)) (by omega)) (by omega)) (by omega)) (by omega)) hy1 (by rw [← Nat.add_assoc]; rfl) hAn (by rw [zsuc (by omega)] at hlv; exact hlv)
  have fin : ∀ (f1 : Nat → Nat → Value) (g1 : Nat → Nat → Int32) (ws : va_W) (H : Heap) (locs : List Loc) (ls : Array Slot) (l a : Nat) (U x2 : Int32), zV zyI D tys o z s.heap b f1 g1 ws H locs → zOtR f f1 → zOtB g g1 → f1 94 8 = .int (Int32.ofNat 0) → f1 94 3 = .int (Int32.ofNat c) → zRr b f1 n 76 a U → g1 99 = g 99 → 0 < n → ((U = Int32.ofInt (-1) ∧ a ≤ n ∧ (∃ k, zD c (zSg (g 99)) a = some (2, l, k)) ∧ c + l ≤ 8 ∧ ¬ (¬ zhe (g 99) n 76 a < (Int8.ofInt 97).toInt32 ∧ ¬ (Int8.ofInt 104).toInt32 < zhe (g 99) n 76 a) ∧ zhe (g 99) n 76 a ≠ (Int8.ofInt 59).toInt32) ∨ (U = Int32.ofNat a ∧ zFl c (zSg (g 99)) n 76 a)) → lv_has ls 4 [(2, .int x2), (1, .int (Int32.ofNat l)), (0, .ref (b 94))] → W p l0 e { frames := 20, cells := 0, slots := 0, locals := 2500 } s m ([.ref (b 94)] : List Value).toArray below meth c0 H locs 0 0 Q (F0 m 77 ls []) := by
    intro f1 g1 ws H locs ls l a U x2 hv ho hoB hy1 hM1 hr1 hg99 hn0 hcase hlv
    obtain ⟨hR, hL, hT, hA, hU, hn8, ht, ha⟩ := id hr1
    refine lv_aload_n C.1 C.2.1 (zda zDX8_riders 77 rfl rfl) rfl (lv_at hlv 2 rfl) ?_
    rcases hcase with ⟨rfl, hal, ⟨k, hDk⟩, hcl, hin, hne⟩ | ⟨rfl, hF⟩
    · rcases Nat.lt_or_ge a n with han | han
      · refine zV_callV C (zr_right2 hr1 han) rfl rfl (by decide) (by decide) (show vwCl[8]? = some (RX8, TX8, 51) from rfl) zw1376 zw1373 zw1375 zs104 zw16 (n := 0) (by decide +kernel) (zda zDX8_riders 78 rfl rfl) rfl zvk94 (show 94 < 126 by decide) hv hlv.1 (by show 0 ≤ 8; decide) (Nat.zero_le _) (Nat.zero_le _) (fun v f9 g9 ws H locs hp hv => ?_)
        obtain ⟨rfl, rfl, rfl⟩ := hp
        refine lv_if_ne C.1 C.2.1 (zda zDX8_riders 81 rfl rfl) (tgt := 91) (by decide) (fun h81 => ?_) (fun h81 => ?_)
        · exact absurd rfl h81
        · refine lv_iconst C.1 C.2.1 (zda zDX8_riders 84 rfl rfl) rfl ?_
          refine lv_aload_n C.1 C.2.1 (zda zDX8_riders 85 rfl rfl) rfl (lv_at hlv 2 rfl) ?_
          refine zV_get C (zda zDX8_riders 86 rfl rfl) (show vwCl[8]? = some (RX8, TX8, 51) from rfl) zinX8 (by decide) zw1188 hv zvk94 (show 94 < 126 by decide) rfl (j := 16) rfl ?_
          refine lv_isub C.1 C.2.1 (zda zDX8_riders 89 rfl rfl) ?_
          have hw : zFl c (zSg (g 99)) n 76 a ∨ (a = 76 ∧ 76 < n ∧ ∃ q, zD c (zSg (g 99)) 76 = some q) := by
            rcases Nat.lt_or_ge a 76 with h7 | h7
            · left
              refine ⟨_, hDk, by omega, by omega, Or.inl ⟨han, h7, ?_⟩⟩
              rw [zD_s hDk]
              rw [zhe_S han h7, Int32.lt_iff_toInt_lt, Int32.lt_iff_toInt_lt, zi97, zi104] at hin
              have hne2 : (zSg (g 99) a).toInt ≠ 59 := fun q => hne (by rw [zhe_i han h7]; exact Int32.toInt_inj.mp (q.trans zi59.symm))
              show (if (zSg (g 99) a).toInt = 59 then some (0, l, 0) else if 97 ≤ (zSg (g 99) a).toInt ∧ (zSg (g 99) a).toInt ≤ 104 ∧ 0 < c + l ∧ c + l ≤ 8 ∧ k < 2 ^ ((zSg (g 99) a).toInt - 97).toNat then some (2, l, k ||| 2 ^ ((zSg (g 99) a).toInt - 97).toNat) else none) = none
              rw [if_neg hne2, if_neg (fun h => hin ⟨by omega, by omega⟩)]
            · have e7 : a = 76 := by omega
              subst e7
              exact Or.inr ⟨rfl, han, _, hDk⟩
          exact hret 90 ls (some _) _ _ _ _ _ (Or.inl ⟨_, .int, rfl, rfl, rfl, (zda zDX8_riders 90 rfl rfl)⟩) hv (⟨_, c, rfl, hM1, hy1, zOtR_u ho, hoB, Or.inr (Or.inl ⟨hn0, a, hw, rfl, rfl⟩)⟩)
      · refine zV_callV C (zr_right1 hr1 han) rfl rfl (by decide) (by decide) (show vwCl[8]? = some (RX8, TX8, 51) from rfl) zw1376 zw1373 zw1375 zs104 zw16 (n := 0) (by decide +kernel) (zda zDX8_riders 78 rfl rfl) rfl zvk94 (show 94 < 126 by decide) hv hlv.1 (by show 0 ≤ 8; decide) (Nat.zero_le _) (Nat.zero_le _) (fun v f9 g9 ws H locs hp hv => ?_)
        obtain ⟨rfl, rfl, rfl⟩ := hp
        refine lv_if_ne C.1 C.2.1 (zda zDX8_riders 81 rfl rfl) (tgt := 91) (by decide) (fun h81 => ?_) (fun h81 => ?_)
        · refine lv_iconst C.1 C.2.1 (zda zDX8_riders 91 rfl rfl) rfl ?_
          refine lv_istore_n C.1 C.2.1 (zda zDX8_riders 92 rfl rfl) rfl hlv (lv' := [(3, .int (Int32.ofInt 0)), (2, .int (x2)), (1, .int (Int32.ofNat l)), (0, .ref (b 94))]) (by decide) rfl (fun ls hlv => ?_)
          rw [zo00] at hlv
          have ean : a = n := by omega
          subst ean
          exact copy (l + 1) _ _ _ _ _ ls 0 l x2 (by omega) (by omega) hcl hv ho hoB hy1 hM1 (Or.inr (Or.inr ⟨hn0, by omega, l, k, hDk, rfl, rfl⟩)) (lv_sub hlv [0, 2, 1, 3] rfl)
        · exact absurd h81 (by decide)
    · refine zV_callV C (zr_right3 hr1 (zne1 (by omega))) rfl rfl (by decide) (by decide) (show vwCl[8]? = some (RX8, TX8, 51) from rfl) zw1376 zw1373 zw1375 zs104 zw16 (n := 0) (by decide +kernel) (zda zDX8_riders 78 rfl rfl) rfl zvk94 (show 94 < 126 by decide) hv hlv.1 (by show 0 ≤ 8; decide) (Nat.zero_le _) (Nat.zero_le _) (fun v f9 g9 ws H locs hp hv => ?_)
      obtain ⟨rfl, rfl, rfl⟩ := hp
      refine lv_if_ne C.1 C.2.1 (zda zDX8_riders 81 rfl rfl) (tgt := 91) (by decide) (fun h81 => ?_) (fun h81 => ?_)
      · exact absurd rfl h81
      · refine lv_iconst C.1 C.2.1 (zda zDX8_riders 84 rfl rfl) rfl ?_
        refine lv_aload_n C.1 C.2.1 (zda zDX8_riders 85 rfl rfl) rfl (lv_at hlv 2 rfl) ?_
        refine zV_get C (zda zDX8_riders 86 rfl rfl) (show vwCl[8]? = some (RX8, TX8, 51) from rfl) zinX8 (by decide) zw1188 hv zvk94 (show 94 < 126 by decide) rfl (j := 16) hU ?_
        refine lv_isub C.1 C.2.1 (zda zDX8_riders 89 rfl rfl) ?_
        exact hret 90 ls (some _) _ _ _ _ _ (Or.inl ⟨_, .int, rfl, rfl, rfl, (zda zDX8_riders 90 rfl rfl)⟩) hv (⟨_, c, rfl, hM1, hy1, ho, hoB, Or.inr (Or.inl ⟨hn0, a, Or.inl hF, rfl, rfl⟩)⟩)
  have loop : ∀ (fuel : Nat) (f1 : Nat → Nat → Value) (g1 : Nat → Nat → Int32) (ws : va_W) (H : Heap) (locs : List Loc) (ls : Array Slot) (l a k0 : Nat), 77 - a < fuel → zV zyI D tys o z s.heap b f1 g1 ws H locs → zOtR f f1 → zOtB g g1 → f1 94 8 = .int (Int32.ofNat 0) → f1 94 3 = .int (Int32.ofNat c) → zRr b f1 n 76 a (Int32.ofInt (-1)) → zOtA g g1 → 0 < n → a ≤ n → zD c (zSg (g 99)) a = some (0, l, k0) → l < 100 → c + l ≤ 8 → lv_has ls 4 [(2, .int (Int32.ofInt 1)), (1, .int (Int32.ofNat l)), (0, .ref (b 94))] → W p l0 e { frames := 20, cells := 0, slots := 0, locals := 2500 } s m ([.ref (b 94)] : List Value).toArray below meth c0 H locs 0 0 Q (F0 m 24 ls []) := by
    intro fuel
    induction fuel with
    | zero => intro f1 g1 ws H locs ls l a k0 h; omega
    | succ fuel ih =>
      intro f1 g1 ws H locs ls l a k0 hfu hv ho hoB hy1 hM1 hr1 hoA hn0 han hD hl1 hcl hlv
      obtain ⟨hR, hL, hT, hA, hU, hn8, ht, ha⟩ := id hr1
      have hg99 : g1 99 = g 99 := hoA 99 (by decide)
      refine lv_iload_n C.1 C.2.1 (zda zDX8_riders 24 rfl rfl) rfl (lv_at hlv 0 rfl) ?_
      refine lv_if_eq C.1 C.2.1 (zda zDX8_riders 25 rfl rfl) (tgt := 77) (by decide) (fun h25 => ?_) (fun h25 => ?_)
      · exact absurd h25 (by decide)
      · refine lv_aload_n C.1 C.2.1 (zda zDX8_riders 28 rfl rfl) rfl (lv_at hlv 2 rfl) ?_
        refine zV_callV C (zr_fineT hU) rfl rfl (by decide) (by decide) (show vwCl[8]? = some (RX8, TX8, 51) from rfl) zw1352 zw1349 zw1351 zs98 zw16 (n := 0) (by decide +kernel) (zda zDX8_riders 29 rfl rfl) rfl zvk94 (show 94 < 126 by decide) hv hlv.1 (by show 0 ≤ 8; decide) (Nat.zero_le _) (Nat.zero_le _) (fun v f9 g9 ws H locs hp hv => ?_)
        obtain ⟨rfl, rfl, rfl⟩ := hp
        refine lv_if_eq C.1 C.2.1 (zda zDX8_riders 32 rfl rfl) (tgt := 77) (by decide) (fun h32 => ?_) (fun h32 => ?_)
        · exact absurd h32 (by decide)
        · refine lv_aload_n C.1 C.2.1 (zda zDX8_riders 35 rfl rfl) rfl (lv_at hlv 2 rfl) ?_
          refine zV_get C (zda zDX8_riders 36 rfl rfl) (show vwCl[8]? = some (RX8, TX8, 51) from rfl) zinX8 (by decide) zw1175 hv zvk94 (show 94 < 126 by decide) rfl (j := 3) hM1 ?_
          refine lv_iload_n C.1 C.2.1 (zda zDX8_riders 39 rfl rfl) rfl (lv_at hlv 1 rfl) ?_
          refine lv_iadd C.1 C.2.1 (zda zDX8_riders 40 rfl rfl) ?_
          rw [zofn (show c < 1000 by omega) (show l < 1000 by omega)]
          refine lv_bipush C.1 C.2.1 (zda zDX8_riders 41 rfl rfl) rfl ?_
          refine lv_icmp_ne C.1 C.2.1 (zda zDX8_riders 43 rfl rfl) (tgt := 57) (by decide) (fun h43 => ?_) (fun h43 => ?_)
          · have hcl8 : c + l < 8 := by
              rcases Nat.lt_or_ge (c + l) 8 with h | h
              · exact h
              · exact absurd (by rw [zi8, show c + l = 8 by omega]) h43
            refine lv_aload_n C.1 C.2.1 (zda zDX8_riders 57 rfl rfl) rfl (lv_at hlv 2 rfl) ?_
            refine lv_iconst C.1 C.2.1 (zda zDX8_riders 58 rfl rfl) rfl ?_
            refine lv_iload_n C.1 C.2.1 (zda zDX8_riders 59 rfl rfl) rfl (lv_at hlv 1 rfl) ?_
            refine lv_imul C.1 C.2.1 (zda zDX8_riders 60 rfl rfl) ?_
            rw [zimul (show l < 100 by omega)]
            refine zV_callV C (zr_man (c := c) (l := l) hr1 han (by rw [hg99]; exact hD) hcl8) rfl rfl (by decide) (by decide) (show vwCl[8]? = some (RX8, TX8, 51) from rfl) zw1360 zw1357 zw1359 zs100 zw16 (n := 1) (by decide +kernel) (zda zDX8_riders 61 rfl rfl) rfl zvk94 (show 94 < 126 by decide) hv hlv.1 (by show 0 ≤ 8; decide) (Nat.zero_le _) (Nat.zero_le _) (fun v f9 g9 ws H locs hp hv => ?_)
            obtain ⟨rfl, ho9, hoA9, a9, U9, hr9, ha9, hout⟩ := hp
            rw [hg99] at hout
            have hoA9 := zOtA_t hoA hoA9
            refine lv_iinc C.1 C.2.1 (zda zDX8_riders 64 rfl rfl) hlv (k := 1) rfl rfl (by decide) (lv' := [(1, .int ((Int32.ofNat l) + Int32.ofInt 1)), (2, .int (Int32.ofInt 1)), (0, .ref (b 94))]) rfl (fun ls hlv => ?_)
            rw [zsuc (show l < 1000 by omega)] at hlv
            refine lv_aload_n C.1 C.2.1 (zda zDX8_riders 67 rfl rfl) rfl (lv_at hlv 2 rfl) ?_
            refine lv_bipush C.1 C.2.1 (zda zDX8_riders 68 rfl rfl) rfl ?_
            rcases hout with ⟨rfl, han9, ⟨k9, hD9⟩, hin⟩ | ⟨rfl, hF⟩
            · have hg9 := hoA9 99 (by decide)
              by_cases hsc : zhe (g 99) n 76 a9 = (Int8.ofInt 59).toInt32
              · refine zV_callV C (zr_passY hr9 (by rw [hg9]; exact hsc) (by decide)) rfl rfl (by decide) (by decide) (show vwCl[8]? = some (RX8, TX8, 51) from rfl) zw1372 zw1369 zw1371 zs103 zw16 (n := 1) (by decide +kernel) (zda zDX8_riders 70 rfl rfl) rfl zvk94 (show 94 < 126 by decide) hv hlv.1 (by show 0 ≤ 8; decide) (Nat.zero_le _) (Nat.zero_le _) (fun v f9 g9 ws H locs hp hv => ?_)
                obtain ⟨rfl, rfl, rfl⟩ := hp
                refine lv_istore_n C.1 C.2.1 (zda zDX8_riders 73 rfl rfl) rfl hlv (lv' := [(2, .int (Int32.ofInt 1)), (1, .int (Int32.ofNat (l + 1))), (0, .ref (b 94))]) (by decide) rfl (fun ls hlv => ?_)
                refine lv_goto C.1 C.2.1 (zda zDX8_riders 74 rfl rfl) (tgt := 24) (by decide) ?_
                have hlt : a9 < n ∧ a9 < 76 := by
                  by_cases h : a9 < n ∧ a9 < 76
                  · exact h
                  · rw [zhe_o h] at hsc
                    exact absurd hsc (by decide)
                obtain ⟨hR9, hL9, hT9, hA9, hU9, -, -, -⟩ := id hr9
                refine ih _ _ _ _ _ ls (l + 1) (a9 + 1) 0 (by omega) hv (zOtR_u (zOtR_o ho ho9)) (zOtB_a hoA9) ((ho9 94 8 (by omega)).trans hy1) ((ho9 94 3 (by omega)).trans hM1) ⟨hR9, hL9, hT9, rfl, hU9, hn8, ht, by omega⟩ hoA9 hn0 (by omega) ?_ (by omega) (by omega) (lv_sub hlv [0, 1, 2] rfl)
                rw [zD_s hD9]
                show (if (zSg (g 99) a9).toInt = 59 then some (0, l + 1, 0) else _) = _
                rw [if_pos (by rw [zhe_i hlt.1 hlt.2] at hsc; show (g 99 a9 &&& Int32.ofInt 255).toInt = 59; rw [hsc, zi59])]
              · refine zV_callV C (zr_passN hr9 (by rw [hg9]; exact hsc)) rfl rfl (by decide) (by decide) (show vwCl[8]? = some (RX8, TX8, 51) from rfl) zw1372 zw1369 zw1371 zs103 zw16 (n := 1) (by decide +kernel) (zda zDX8_riders 70 rfl rfl) rfl zvk94 (show 94 < 126 by decide) hv hlv.1 (by show 0 ≤ 8; decide) (Nat.zero_le _) (Nat.zero_le _) (fun v f9 g9 ws H locs hp hv => ?_)
                obtain ⟨rfl, rfl, rfl⟩ := hp
                refine lv_istore_n C.1 C.2.1 (zda zDX8_riders 73 rfl rfl) rfl hlv (lv' := [(2, .int (Int32.ofInt 0)), (1, .int (Int32.ofNat (l + 1))), (0, .ref (b 94))]) (by decide) rfl (fun ls hlv => ?_)
                refine lv_goto C.1 C.2.1 (zda zDX8_riders 74 rfl rfl) (tgt := 24) (by decide) ?_
                refine lv_iload_n C.1 C.2.1 (zda zDX8_riders 24 rfl rfl) rfl (lv_at hlv 0 rfl) ?_
                refine lv_if_eq C.1 C.2.1 (zda zDX8_riders 25 rfl rfl) (tgt := 77) (by decide) (fun h25 => ?_) (fun h25 => ?_)
                · exact fin _ _ _ _ _ ls (l + 1) a9 _ _ hv (zOtR_o ho ho9) (zOtB_a hoA9) ((ho9 94 8 (by omega)).trans hy1) ((ho9 94 3 (by omega)).trans hM1) hr9 hg9 hn0 (Or.inl ⟨rfl, han9, ⟨k9, hD9⟩, by omega, hin, hsc⟩) (lv_sub hlv [0, 1, 2] rfl)
                · exact absurd rfl h25
            · have hg9 := hoA9 99 (by decide)
              have ha76 : a9 ≤ 76 := hr9.2.2.2.2.2.2.2
              refine zV_callV C (zr_passF hr9 (zne1 (by omega))) rfl rfl (by decide) (by decide) (show vwCl[8]? = some (RX8, TX8, 51) from rfl) zw1372 zw1369 zw1371 zs103 zw16 (n := 1) (by decide +kernel) (zda zDX8_riders 70 rfl rfl) rfl zvk94 (show 94 < 126 by decide) hv hlv.1 (by show 0 ≤ 8; decide) (Nat.zero_le _) (Nat.zero_le _) (fun v f9 g9 ws H locs hp hv => ?_)
              obtain ⟨rfl, rfl, rfl⟩ := hp
              refine lv_istore_n C.1 C.2.1 (zda zDX8_riders 73 rfl rfl) rfl hlv (lv' := [(2, .int (Int32.ofInt 0)), (1, .int (Int32.ofNat (l + 1))), (0, .ref (b 94))]) (by decide) rfl (fun ls hlv => ?_)
              refine lv_goto C.1 C.2.1 (zda zDX8_riders 74 rfl rfl) (tgt := 24) (by decide) ?_
              refine lv_iload_n C.1 C.2.1 (zda zDX8_riders 24 rfl rfl) rfl (lv_at hlv 0 rfl) ?_
              refine lv_if_eq C.1 C.2.1 (zda zDX8_riders 25 rfl rfl) (tgt := 77) (by decide) (fun h25 => ?_) (fun h25 => ?_)
              · exact fin _ _ _ _ _ ls (l + 1) a9 _ _ hv (zOtR_o ho ho9) (zOtB_a hoA9) ((ho9 94 8 (by omega)).trans hy1) ((ho9 94 3 (by omega)).trans hM1) hr9 hg9 hn0 (Or.inr ⟨rfl, hF⟩) (lv_sub hlv [0, 1, 2] rfl)
              · exact absurd rfl h25
          · have hcl8 : c + l = 8 := by
              rw [zi8] at h43
              exact zoe (by omega) (by omega) h43
            refine lv_aload_n C.1 C.2.1 (zda zDX8_riders 46 rfl rfl) rfl (lv_at hlv 2 rfl) ?_
            refine lv_aload_n C.1 C.2.1 (zda zDX8_riders 47 rfl rfl) rfl (lv_at hlv 2 rfl) ?_
            refine zV_get C (zda zDX8_riders 48 rfl rfl) (show vwCl[8]? = some (RX8, TX8, 51) from rfl) zinX8 (by decide) zw1187 hv zvk94 (show 94 < 126 by decide) rfl (j := 15) hA ?_
            refine zV_callV C (zr_faultY hU (by omega)) rfl rfl (by decide) (by decide) (show vwCl[8]? = some (RX8, TX8, 51) from rfl) zw1356 zw1353 zw1355 zs99 zw16 (n := 1) (by decide +kernel) (zda zDX8_riders 51 rfl rfl) rfl zvk94 (show 94 < 126 by decide) hv hlv.1 (by show 0 ≤ 8; decide) (Nat.zero_le _) (Nat.zero_le _) (fun v f9 g9 ws H locs hp hv => ?_)
            obtain ⟨rfl, rfl, rfl⟩ := hp
            refine lv_goto C.1 C.2.1 (zda zDX8_riders 54 rfl rfl) (tgt := 64) (by decide) ?_
            refine lv_iinc C.1 C.2.1 (zda zDX8_riders 64 rfl rfl) hlv (k := 1) rfl rfl (by decide) (lv' := [(1, .int ((Int32.ofNat l) + Int32.ofInt 1)), (2, .int (Int32.ofInt 1)), (0, .ref (b 94))]) rfl (fun ls hlv => ?_)
            rw [zsuc (show l < 1000 by omega)] at hlv
            refine lv_aload_n C.1 C.2.1 (zda zDX8_riders 67 rfl rfl) rfl (lv_at hlv 2 rfl) ?_
            refine lv_bipush C.1 C.2.1 (zda zDX8_riders 68 rfl rfl) rfl ?_
            refine zV_callV C (zr_passF (f := zuv f1 94 16 (.int (Int32.ofNat a))) (U := Int32.ofNat a) ⟨hR, hL, hT, hA, rfl, hn8, ht, ha⟩ (zne1 (by omega))) rfl rfl (by decide) (by decide) (show vwCl[8]? = some (RX8, TX8, 51) from rfl) zw1372 zw1369 zw1371 zs103 zw16 (n := 1) (by decide +kernel) (zda zDX8_riders 70 rfl rfl) rfl zvk94 (show 94 < 126 by decide) hv hlv.1 (by show 0 ≤ 8; decide) (Nat.zero_le _) (Nat.zero_le _) (fun v f9 g9 ws H locs hp hv => ?_)
            obtain ⟨rfl, rfl, rfl⟩ := hp
            refine lv_istore_n C.1 C.2.1 (zda zDX8_riders 73 rfl rfl) rfl hlv (lv' := [(2, .int (Int32.ofInt 0)), (1, .int (Int32.ofNat (l + 1))), (0, .ref (b 94))]) (by decide) rfl (fun ls hlv => ?_)
            refine lv_goto C.1 C.2.1 (zda zDX8_riders 74 rfl rfl) (tgt := 24) (by decide) ?_
            refine lv_iload_n C.1 C.2.1 (zda zDX8_riders 24 rfl rfl) rfl (lv_at hlv 0 rfl) ?_
            refine lv_if_eq C.1 C.2.1 (zda zDX8_riders 25 rfl rfl) (tgt := 77) (by decide) (fun h25 => ?_) (fun h25 => ?_)
            · refine fin _ _ _ _ _ ls (l + 1) a _ _ hv (zOtR_u ho) hoB hy1 hM1 ⟨hR, hL, hT, hA, rfl, hn8, ht, ha⟩ hg99 hn0 (Or.inr ⟨rfl, _, hD, han, ha, ?_⟩) (lv_sub hlv [0, 1, 2] rfl)
              by_cases h : a < n ∧ a < 76
              · refine Or.inl ⟨h.1, h.2, ?_⟩
                rw [zD_s hD]
                show (if 49 ≤ (zSg (g 99) a).toInt ∧ (zSg (g 99) a).toInt ≤ 52 ∧ c + l < 8 then some (1, l, 0) else none) = none
                rw [if_neg (by omega)]
              · exact Or.inr ⟨by omega, by show 0 < 2; decide⟩
            · exact absurd rfl h25
  refine lv_aload_n C.1 C.2.1 (zda zDX8_riders 0 rfl rfl) rfl (lv_at hlv 0 rfl) ?_
  refine lv_iconst C.1 C.2.1 (zda zDX8_riders 1 rfl rfl) rfl ?_
  refine zV_puti C (zda zDX8_riders 2 rfl rfl) (show vwCl[8]? = some (RX8, TX8, 51) from rfl) zinX8 tyX8 tyX8_ok nmX8 (j := 11) (by decide) zw1183 rfl (by decide +kernel) hv zvk94 (show 94 < 126 by decide) rfl ⟨by show (0 : Int) ≤ _; decide, by show _ ≤ (1 : Int); decide⟩ (fun ws H locs hv => ?_)
  refine lv_aload_n C.1 C.2.1 (zda zDX8_riders 5 rfl rfl) rfl (lv_at hlv 0 rfl) ?_
  refine lv_bipush C.1 C.2.1 (zda zDX8_riders 6 rfl rfl) rfl ?_
  rw [zi76]
  refine zV_callV C (zr_bt (f := zuv f 94 11 (.int (Int32.ofInt 0))) (n := n) hy hn (by decide)) rfl rfl (by decide) (by decide) (show vwCl[8]? = some (RX8, TX8, 51) from rfl) zw1344 zw1341 zw1343 zs96 zw16 (n := 1) (by decide +kernel) (zda zDX8_riders 8 rfl rfl) rfl zvk94 (show 94 < 126 by decide) hv hlv.1 (by show 0 ≤ 8; decide) (Nat.zero_le _) (Nat.zero_le _) (fun v f9 g9 ws H locs hp hv => ?_)
  obtain ⟨rfl, rfl, rfl⟩ := hp
  refine lv_aload_n C.1 C.2.1 (zda zDX8_riders 11 rfl rfl) rfl (lv_at hlv 0 rfl) ?_
  refine zV_get C (zda zDX8_riders 12 rfl rfl) (show vwCl[8]? = some (RX8, TX8, 51) from rfl) zinX8 (by decide) zw1185 hv zvk94 (show 94 < 126 by decide) rfl (j := 13) rfl ?_
  refine lv_if_ne C.1 C.2.1 (zda zDX8_riders 15 rfl rfl) (tgt := 20) (by decide) (fun h15 => ?_) (fun h15 => ?_)
  · refine lv_iconst C.1 C.2.1 (zda zDX8_riders 20 rfl rfl) rfl ?_
    rw [zo00]
    refine lv_istore_n C.1 C.2.1 (zda zDX8_riders 21 rfl rfl) rfl hlv (lv' := [(1, .int (Int32.ofNat 0)), (0, .ref (b 94))]) (by decide) rfl (fun ls hlv => ?_)
    refine lv_iconst C.1 C.2.1 (zda zDX8_riders 22 rfl rfl) rfl ?_
    refine lv_istore_n C.1 C.2.1 (zda zDX8_riders 23 rfl rfl) rfl hlv (lv' := [(2, .int (Int32.ofInt 1)), (1, .int (Int32.ofNat 0)), (0, .ref (b 94))]) (by decide) rfl (fun ls hlv => ?_)
    have hn0 : 0 < n := by
      rcases Nat.eq_zero_or_pos n with h | h
      · subst h
        exact absurd rfl h15
      · exact h
    exact loop 78 _ _ _ _ _ ls 0 0 0 (by omega) hv (zOtR_u (zOtR_u (zOtR_u (zOtR_u (zOtR_u (zOtR_u (zOtR_u zOtR_rf))))))) (zOtB_a zOtA_rf) rfl hM ⟨rfl, rfl, rfl, rfl, rfl, hn, by decide, by omega⟩ zOtA_rf hn0 (by omega) rfl (by decide) (by omega) hlv
  · have hn0 : n = 0 := by
      have h9 := zon (show n < 1000 by omega)
      rw [h15] at h9
      have h8 : (0 : Int32).toInt = 0 := by decide
      rw [h8] at h9
      omega
    refine lv_iconst C.1 C.2.1 (zda zDX8_riders 18 rfl rfl) rfl ?_
    rw [zo00]
    exact hret 19 ls (some _) _ _ _ _ _ (Or.inl ⟨_, .int, rfl, rfl, rfl, (zda zDX8_riders 19 rfl rfl)⟩) hv (⟨_, c, rfl, hM, rfl, zOtR_u (zOtR_u (zOtR_u (zOtR_u (zOtR_u (zOtR_u (zOtR_u zOtR_rf)))))), zOtB_a zOtA_rf, Or.inl ⟨hn0, rfl, rfl⟩⟩)
end ZRID
