/-! LINES: what signs may follow -/
def zds (c : Nat) (x : Int) (q : Nat × Nat × Nat) : Option (Nat × Nat × Nat) := match q.1 with
  | 0 => if 49 ≤ x ∧ x ≤ 52 ∧ c + q.2.1 < 8 then some (1, q.2.1, 0) else none
  | 1 => if 49 ≤ x ∧ x ≤ 57 ∧ c + q.2.1 < 8 then some (2, q.2.1 + 1, 0) else none
  | _ => if x = 59 then some (0, q.2.1, 0) else if 97 ≤ x ∧ x ≤ 104 ∧ 0 < c + q.2.1 ∧ c + q.2.1 ≤ 8 ∧ q.2.2 < 2 ^ (x - 97).toNat then some (2, q.2.1, q.2.2 ||| 2 ^ (x - 97).toNat) else none
def zD (c : Nat) (S : Nat → Int32) : Nat → Option (Nat × Nat × Nat)
  | 0 => some (0, 0, 0)
  | p + 1 => match zD c S p with
    | none => none
    | some q => zds c (S p).toInt q
theorem zD_s {c : Nat} {S : Nat → Int32} {p : Nat} {q : Nat × Nat × Nat} (h : zD c S p = some q) : zD c S (p + 1) = zds c (S p).toInt q := by
  show (match zD c S p with
    | none => none
    | some q => zds c (S p).toInt q) = _
  rw [h]
/-- the signs that the reference reads -/
abbrev zSg (G : Nat → Int32) : Nat → Int32 := fun i => G i &&& Int32.ofInt 255
theorem zhe_S {G : Nat → Int32} {n t a : Nat} (h1 : a < n) (h2 : a < t) : zhe G n t a = zSg G a := zhe_i h1 h2
/-- a place at which a sign can't stand -/
def zFl (c : Nat) (S : Nat → Int32) (n t w : Nat) : Prop := ∃ q, zD c S w = some q ∧ w ≤ n ∧ w ≤ t ∧ ((w < n ∧ w < t ∧ zD c S (w + 1) = none) ∨ ((n ≤ w ∨ t ≤ w) ∧ q.1 < 2))
def zOut (c : Nat) (G : Nat → Int32) (n t l a : Nat) (U : Int32) : Prop := (U = Int32.ofInt (-1) ∧ a ≤ n ∧ (∃ k, zD c (zSg G) a = some (2, l + 1, k)) ∧ ¬ (¬ zhe G n t a < (Int8.ofInt 97).toInt32 ∧ ¬ (Int8.ofInt 104).toInt32 < zhe G n t a)) ∨ (U = Int32.ofNat a ∧ zFl c (zSg G) n t a)
/-- all but the reader's places -/
def zOth (f f' : Nat → Nat → Value) : Prop := ∀ k j, ¬ (k = 94 ∧ (j = 15 ∨ j = 16)) → f' k j = f k j
theorem zOth_rf {f : Nat → Nat → Value} : zOth f f := fun _ _ _ => rfl
theorem zOth_u {f f' : Nat → Nat → Value} {v : Value} {j0 : Nat} (h : zOth f f') (h0 : j0 = 15 ∨ j0 = 16) : zOth f (zuv f' 94 j0 v) := by
  intro k j hkj
  rw [← h k j hkj]
  unfold zuv
  by_cases hk : k = 94
  · by_cases hj : j = j0
    · exact absurd ⟨hk, by omega⟩ hkj
    · rw [zbq_f hj, Bool.and_false]
  · rw [zbq_f hk, Bool.false_and]
def zOtA (g g' : Nat → Nat → Int32) : Prop := ∀ k, k ≠ 101 → g' k = g k
theorem zOtA_rf {g : Nat → Nat → Int32} : zOtA g g := fun _ _ => rfl
theorem zOtA_u {g g' : Nat → Nat → Int32} {i : Nat} {v : Int32} (h : zOtA g g') : zOtA g (zua g' 101 i v) := by
  intro k hk
  rw [← h k hk]
  unfold zua
  rw [zbq_f hk]
def zPm (b : Nat → Nat) (f : Nat → Nat → Value) (g : Nat → Nat → Int32) (c n t l a : Nat) (v : Option Value) (f' : Nat → Nat → Value) (g' : Nat → Nat → Int32) : Prop := v = none ∧ zOth f f' ∧ zOtA g g' ∧ ∃ a' U', zRr b f' n t a' U' ∧ a ≤ a' ∧ zOut c (g 99) n t l a' U'
theorem zne1 {a : Nat} (h : a < 1000) : Int32.ofNat a ≠ Int32.ofInt (-1) := by
  intro q
  have h9 := zon h
  rw [q, zm1] at h9
  omega
theorem zi49 : ((Int8.ofInt 49).toInt32).toInt = 49 := by decide
theorem zi97 : ((Int8.ofInt 97).toInt32).toInt = 97 := by decide
theorem zi104 : ((Int8.ofInt 104).toInt32).toInt = 104 := by decide
theorem zi52 : ((Int8.ofInt 49).toInt32 + Int32.ofInt 4 - Int32.ofInt 1).toInt = 52 := by decide
theorem zi57 : ((Int8.ofInt 49).toInt32 + (Int8.ofInt 9).toInt32 - Int32.ofInt 1).toInt = 57 := by decide
theorem zofa {a k : Nat} (ha : a < 1000) (hk : k < 1000) {y : Int32} (hy : y.toInt = (k : Int)) : Int32.ofNat a + y = Int32.ofNat (a + k) := by
  apply Int32.toInt_inj.mp
  rw [zonB (show a + k < 2147483648 by omega), Int32.toInt_add, zon ha, hy, zbm (B := 2147483648) (by decide) (by omega) (by omega)]
  omega
theorem zgmono {k : Nat} {l h : Int} (h0 : 0 ≤ h) (h1 : -1 ≤ l) (hk : k < 2 ^ (l + 1).toNat) (hl : 0 ≤ l → 2 ^ l.toNat ≤ k) : l < h ↔ k < 2 ^ h.toNat := by
  constructor
  · intro q
    exact Nat.lt_of_lt_of_le hk (Nat.pow_le_pow_right (by decide) (by omega))
  · intro q
    by_cases r : l < h
    · exact r
    · exfalso
      have h2 := hl (by omega)
      have h3 : 2 ^ h.toNat ≤ 2 ^ l.toNat := Nat.pow_le_pow_right (by decide) (by omega)
      omega
set_option maxRecDepth 100000 in
theorem zsh_t : ∀ h : Nat, h < 8 → (Int32.ofInt 1 <<< (Int32.ofNat h &&& 31)) = Int32.ofNat (2 ^ h) := by decide
theorem zorN {a k : Nat} (ha : a < 256) (hk : k < 256) : Int32.ofNat a ||| Int32.ofNat k = Int32.ofNat (a ||| k) := by
  have h3 : a ||| k < 2 ^ 8 := Nat.or_lt_two_pow (by omega) (by omega)
  apply Int32.toInt_inj.mp
  rw [zor_nat (zon (by omega)) (zon (by omega)) (by omega) (by omega), zon (by omega)]
theorem zdig {x : Int32} (h : -128 ≤ x.toInt ∧ x.toInt ≤ 127) : (x - (Int8.ofInt 49).toInt32 + Int32.ofInt 1).toInt = x.toInt - 48 := by
  rw [Int32.toInt_add, Int32.toInt_sub, zi49, show (Int32.ofInt 1).toInt = 1 by decide, zbm (B := 2147483648) (x := x.toInt - 49) (by decide) (by omega) (by omega), zbm (B := 2147483648) (by decide) (by omega) (by omega)]
  omega
theorem zone8 : ∀ h : Nat, h < 8 → 2 ^ h < 256 := by decide
section ZMAN
variable {l : Launch} {D : va_G} {tys : List (ClassId × FieldType)} {o : zO} {z : Nat} {b : Nat → Nat} {f : Nat → Nat → Value} {g : Nat → Nat → Int32}
variable {n t a : Nat} {U : Int32} {l0 : Launch}
set_option maxHeartbeats 4000000 in
theorem zr_man {c l k0 : Nat} (hr : zRr b f n t a (Int32.ofInt (-1))) (han : a ≤ n) (hD : zD c (zSg (g 99)) a = some (0, l, k0)) (hcl : c + l < 8) : zCt l0 D tys o z zyI b mX8_readMan 12 1500 [.ref (b 94), .int (Int32.ofNat (3 * l))] f g (zPm b f g c n t l a) := by
  refine zCt_of (mr := mX8_readMan) (by decide) (by decide) (by decide) (show 2 ≤ 4 by decide) rfl rfl ?_
  intro p e s m below meth c0 Q ls ws C hret hv hlv
  replace C : zCx p { frames := 12, cells := 0, slots := 0, locals := 1500 } s m ([.ref (b 94), .int (Int32.ofNat (3 * l))] : List Value).toArray meth c0 D vwCl tys z (zXX o z) zTs RX8 cX8_readMan 4 "readMan" := C
  have hlv : lv_has ls 4 [(0, .ref (b 94)), (1, .int (Int32.ofNat (3 * l)))] := hlv
  have endF : ∀ (f1 : Nat → Nat → Value) (g1 : Nat → Nat → Int32) (ws : va_W) (H : Heap) (locs : List Loc) (ls : Array Slot) (x2 : Int32) (a1 : Nat), zV zyI D tys o z s.heap b f1 g1 ws H locs → zRr b f1 n t a1 (Int32.ofNat a1) → zOth f f1 → zOtA g g1 → a ≤ a1 → zFl c (zSg (g 99)) n t a1 → lv_has ls 4 [(2, .int x2), (0, .ref (b 94)), (1, .int (Int32.ofNat (3 * l)))] → W p l0 e { frames := 12, cells := 0, slots := 0, locals := 1500 } s m ([.ref (b 94), .int (Int32.ofNat (3 * l))] : List Value).toArray below meth c0 H locs 0 0 Q (F0 m 44 ls []) := by
    intro f1 g1 ws H locs ls x2 a1 hv hr1 ho hoA haa hF hlv
    obtain ⟨hR, hL, hT, hA, hU, hn, ht, ha⟩ := id hr1
    refine lv_aload_n C.1 C.2.1 (zda zDX8_readMan 44 rfl rfl) rfl (lv_at hlv 1 rfl) ?_
    refine zV_callV C (zr_fineF hU (zne1 (by omega))) rfl rfl (by decide) (by decide) (show vwCl[8]? = some (RX8, TX8, 51) from rfl) zw1352 zw1349 zw1351 zs98 zw16 (n := 0) (by decide +kernel) (zda zDX8_readMan 45 rfl rfl) rfl zvk94 (show 94 < 126 by decide) hv hlv.1 (by show 0 ≤ 8; decide) (Nat.zero_le _) (Nat.zero_le _) (fun v f9 g9 ws H locs hp hv => ?_)
    obtain ⟨rfl, rfl, rfl⟩ := hp
    refine lv_if_eq C.1 C.2.1 (zda zDX8_readMan 48 rfl rfl) (tgt := 118) (by decide) (fun h48 => ?_) (fun h48 => ?_)
    · exact hret 118 ls none _ _ _ _ _ ⟨rfl, (zda zDX8_readMan 118 rfl rfl)⟩ hv (⟨rfl, ho, hoA, a1, _, hr1, haa, Or.inr ⟨rfl, hF⟩⟩)
    · exact absurd rfl h48
  have loop : ∀ (fuel : Nat) (f1 : Nat → Nat → Value) (g1 : Nat → Nat → Int32) (ws : va_W) (H : Heap) (locs : List Loc) (ls : Array Slot) (x2 : Int32) (a1 k : Nat), t - a1 < fuel → zV zyI D tys o z s.heap b f1 g1 ws H locs → zRr b f1 n t a1 (Int32.ofInt (-1)) → zOth f f1 → zOtA g g1 → a ≤ a1 → a1 ≤ n → zD c (zSg (g 99)) a1 = some (2, l + 1, k) → g1 101 (3 * l + 2) = Int32.ofNat k → k < 256 → -1 ≤ x2.toInt → x2.toInt ≤ 7 → k < 2 ^ (x2.toInt + 1).toNat → (0 ≤ x2.toInt → 2 ^ x2.toInt.toNat ≤ k) → lv_has ls 4 [(2, .int x2), (0, .ref (b 94)), (1, .int (Int32.ofNat (3 * l)))] → W p l0 e { frames := 12, cells := 0, slots := 0, locals := 1500 } s m ([.ref (b 94), .int (Int32.ofNat (3 * l))] : List Value).toArray below meth c0 H locs 0 0 Q (F0 m 44 ls []) := by
    intro fuel
    induction fuel with
    | zero => intro f1 g1 ws H locs ls x2 a1 k h; omega
    | succ fuel ih =>
      intro f1 g1 ws H locs ls x2 a1 k hfu hv hr1 ho hoA haa han1 hD1 hk hk8 hx1 hx2 hx3 hx4 hlv
      obtain ⟨hR, hL, hT, hA, hU, hn, ht, ha⟩ := id hr1
      have hg99 : g1 99 = g 99 := hoA 99 (by decide)
      refine lv_aload_n C.1 C.2.1 (zda zDX8_readMan 44 rfl rfl) rfl (lv_at hlv 1 rfl) ?_
      refine zV_callV C (zr_fineT hU) rfl rfl (by decide) (by decide) (show vwCl[8]? = some (RX8, TX8, 51) from rfl) zw1352 zw1349 zw1351 zs98 zw16 (n := 0) (by decide +kernel) (zda zDX8_readMan 45 rfl rfl) rfl zvk94 (show 94 < 126 by decide) hv hlv.1 (by show 0 ≤ 8; decide) (Nat.zero_le _) (Nat.zero_le _) (fun v f9 g9 ws H locs hp hv => ?_)
      obtain ⟨rfl, rfl, rfl⟩ := hp
      refine lv_if_eq C.1 C.2.1 (zda zDX8_readMan 48 rfl rfl) (tgt := 118) (by decide) (fun h48 => ?_) (fun h48 => ?_)
      · exact absurd h48 (by decide)
      · refine lv_aload_n C.1 C.2.1 (zda zDX8_readMan 51 rfl rfl) rfl (lv_at hlv 1 rfl) ?_
        refine zV_callV C (zr_here hr1) rfl rfl (by decide) (by decide) (show vwCl[8]? = some (RX8, TX8, 51) from rfl) zw1368 zw1365 zw1367 zs102 zw16 (n := 0) (by decide +kernel) (zda zDX8_readMan 52 rfl rfl) rfl zvk94 (show 94 < 126 by decide) hv hlv.1 (by show 0 ≤ 8; decide) (Nat.zero_le _) (Nat.zero_le _) (fun v f9 g9 ws H locs hp hv => ?_)
        obtain ⟨rfl, rfl, rfl⟩ := hp
        refine lv_bipush C.1 C.2.1 (zda zDX8_readMan 55 rfl rfl) rfl ?_
        refine lv_bipush C.1 C.2.1 (zda zDX8_readMan 57 rfl rfl) rfl ?_
        by_cases hin : ¬ zhe (g1 99) n t a1 < (Int8.ofInt 97).toInt32 ∧ ¬ (Int8.ofInt 104).toInt32 < zhe (g1 99) n t a1
        · refine zV_callS C (zr_inT hin.1 hin.2) rfl rfl (by decide) (by decide) zw1336 zw1334 zw1335 zw16 (n := 3) (by decide +kernel) (zda zDX8_readMan 59 rfl rfl) rfl hv hlv.1 (by show 0 ≤ 8; decide) (Nat.zero_le _) (Nat.zero_le _) (fun v f9 g9 ws H locs hp hv => ?_)
          obtain ⟨rfl, rfl, rfl⟩ := hp
          refine lv_if_eq C.1 C.2.1 (zda zDX8_readMan 62 rfl rfl) (tgt := 118) (by decide) (fun h62 => ?_) (fun h62 => ?_)
          · exact absurd h62 (by decide)
          · obtain ⟨i1, i2⟩ := hin
            rw [Int32.lt_iff_toInt_lt, zi97] at i1
            rw [Int32.lt_iff_toInt_lt, zi104] at i2
            have hlt : a1 < n ∧ a1 < t := by
              by_cases h : a1 < n ∧ a1 < t
              · exact h
              · rw [zhe_o h, zm1] at i1
                omega
            have hS : zhe (g1 99) n t a1 = zSg (g 99) a1 := by rw [zhe_i hlt.1 hlt.2, hg99]
            rw [hS] at i1 i2
            have hDs := zD_s hD1
            generalize hx : zSg (g 99) a1 = xs at hS i1 i2 hDs
            obtain ⟨q, hq⟩ : ∃ q : Nat, xs.toInt = ((97 + q : Nat) : Int) := ⟨xs.toInt.toNat - 97, by omega⟩
            have hq8 : q < 8 := by omega
            have hsub : xs - (Int8.ofInt 97).toInt32 = Int32.ofNat q := by
              apply Int32.toInt_inj.mp
              rw [Int32.toInt_sub, zi97, hq, zon (by omega), zbm (B := 2147483648) (by decide) (by omega) (by omega)]
              omega
            have hgm := zgmono (k := k) (l := x2.toInt) (h := (q : Int)) (by omega) hx1 hx3 hx4
            have hqt : ((q : Int)).toNat = q := rfl
            rw [hqt] at hgm
            have hcond : zds c xs.toInt (2, l + 1, k) = if k < 2 ^ q then some (2, l + 1, k ||| 2 ^ q) else none := by
              show (if xs.toInt = 59 then some (0, l + 1, 0) else if 97 ≤ xs.toInt ∧ xs.toInt ≤ 104 ∧ 0 < c + (l + 1) ∧ c + (l + 1) ≤ 8 ∧ k < 2 ^ (xs.toInt - 97).toNat then some (2, l + 1, k ||| 2 ^ (xs.toInt - 97).toNat) else none) = _
              rw [hq, if_neg (by omega), show (((97 + q : Nat) : Int) - 97).toNat = q by omega]
              by_cases hkq : k < 2 ^ q
              · rw [if_pos ⟨by omega, by omega, by omega, by omega, hkq⟩, if_pos hkq]
              · rw [if_neg (fun h => hkq h.2.2.2.2), if_neg hkq]
            rw [hcond] at hDs
            refine lv_aload_n C.1 C.2.1 (zda zDX8_readMan 65 rfl rfl) rfl (lv_at hlv 1 rfl) ?_
            refine zV_callV C (zr_here hr1) rfl rfl (by decide) (by decide) (show vwCl[8]? = some (RX8, TX8, 51) from rfl) zw1368 zw1365 zw1367 zs102 zw16 (n := 0) (by decide +kernel) (zda zDX8_readMan 66 rfl rfl) rfl zvk94 (show 94 < 126 by decide) hv hlv.1 (by show 0 ≤ 8; decide) (Nat.zero_le _) (Nat.zero_le _) (fun v f9 g9 ws H locs hp hv => ?_)
            obtain ⟨rfl, rfl, rfl⟩ := hp
            rw [hS]
            refine lv_bipush C.1 C.2.1 (zda zDX8_readMan 69 rfl rfl) rfl ?_
            refine lv_isub C.1 C.2.1 (zda zDX8_readMan 71 rfl rfl) ?_
            rw [hsub]
            refine lv_istore_n C.1 C.2.1 (zda zDX8_readMan 72 rfl rfl) rfl hlv (lv' := [(3, .int (Int32.ofNat q)), (2, .int (x2)), (0, .ref (b 94)), (1, .int (Int32.ofNat (3 * l)))]) (by decide) rfl (fun ls hlv => ?_)
            refine lv_iload_n C.1 C.2.1 (zda zDX8_readMan 73 rfl rfl) rfl (lv_at hlv 0 rfl) ?_
            refine lv_iload_n C.1 C.2.1 (zda zDX8_readMan 74 rfl rfl) rfl (lv_at hlv 1 rfl) ?_
            refine lv_icmp_gt C.1 C.2.1 (zda zDX8_readMan 75 rfl rfl) (tgt := 89) (by decide) (fun h75 => ?_) (fun h75 => ?_)
            · rw [Int32.lt_iff_toInt_lt, zon (show q < 1000 by omega)] at h75
              have hkq := hgm.mp h75
              rw [if_pos hkq] at hDs
              have ha1 := zon (show a1 + 1 < 1000 by omega)
              refine lv_aload_n C.1 C.2.1 (zda zDX8_readMan 89 rfl rfl) rfl (lv_at hlv 2 rfl) ?_
              refine lv_dup C.1 C.2.1 (zda zDX8_readMan 90 rfl rfl) rfl ?_
              refine zV_get C (zda zDX8_readMan 91 rfl rfl) (show vwCl[8]? = some (RX8, TX8, 51) from rfl) zinX8 (by decide) zw1187 hv zvk94 (show 94 < 126 by decide) rfl (j := 15) hA ?_
              refine lv_iconst C.1 C.2.1 (zda zDX8_readMan 94 rfl rfl) rfl ?_
              refine lv_iadd C.1 C.2.1 (zda zDX8_readMan 95 rfl rfl) ?_
              refine zV_puti C (zda zDX8_readMan 96 rfl rfl) (show vwCl[8]? = some (RX8, TX8, 51) from rfl) zinX8 tyX8 tyX8_ok nmX8 (j := 15) (by decide) zw1187 rfl (by decide +kernel) hv zvk94 (show 94 < 126 by decide) rfl ⟨by show (0 : Int) ≤ _; (rw [zsuc (by omega)]; omega), by show _ ≤ (76 : Int); (rw [zsuc (by omega)]; omega)⟩ (fun ws H locs hv => ?_)
              rw [zsuc (show a1 < 1000 by omega)] at hv
              refine lv_aload_n C.1 C.2.1 (zda zDX8_readMan 99 rfl rfl) rfl (lv_at hlv 2 rfl) ?_
              refine zV_get C (zda zDX8_readMan 100 rfl rfl) (show vwCl[8]? = some (RX8, TX8, 51) from rfl) zinX8 (by decide) zw1189 hv zvk94 (show 94 < 126 by decide) rfl (j := 17) (zV_ref hv zvk94 (show 94 < 126 by decide) rfl) ?_
              refine lv_iload_n C.1 C.2.1 (zda zDX8_readMan 103 rfl rfl) rfl (lv_at hlv 3 rfl) ?_
              refine lv_iconst C.1 C.2.1 (zda zDX8_readMan 104 rfl rfl) rfl ?_
              refine lv_iadd C.1 C.2.1 (zda zDX8_readMan 105 rfl rfl) ?_
              refine lv_dup2_11 C.1 C.2.1 (zda zDX8_readMan 106 rfl rfl) rfl rfl ?_
              refine zV_ld0 C (zda zDX8_readMan 107 rfl rfl) hv zvk101 (show 101 < 126 by decide) (i := 3 * l + 2) (by rw [zofa (k := 2) (by omega) (by decide) (by decide), zon (by omega)]) (by omega) ?_
              rw [hk]
              refine lv_iconst C.1 C.2.1 (zda zDX8_readMan 108 rfl rfl) rfl ?_
              refine lv_iload_n C.1 C.2.1 (zda zDX8_readMan 109 rfl rfl) rfl (lv_at hlv 0 rfl) ?_
              refine lv_ishl C.1 C.2.1 (zda zDX8_readMan 110 rfl rfl) ?_
              rw [zsh_t q hq8]
              refine lv_ior C.1 C.2.1 (zda zDX8_readMan 111 rfl rfl) ?_
              have hp8 := zone8 q hq8
              rw [zorN hk8 hp8]
              have ho8 : k ||| 2 ^ q < 2 ^ 8 := Nat.or_lt_two_pow (by omega) (by omega)
              have ho9 := zon (show k ||| 2 ^ q < 1000 by omega)
              refine zV_st0 C (zda zDX8_readMan 112 rfl rfl) hv zvk101 (show 101 < 126 by decide) (i := 3 * l + 2) (by rw [zofa (k := 2) (by omega) (by decide) (by decide), zon (by omega)]) (by omega) (zelr_ok zve101 (by omega) (by show (-1000 : Int) ≤ _; omega) (by show _ ≤ (1000 : Int); omega)) (fun ws H locs hv => ?_)
              refine lv_iload_n C.1 C.2.1 (zda zDX8_readMan 113 rfl rfl) rfl (lv_at hlv 0 rfl) ?_
              refine lv_istore_n C.1 C.2.1 (zda zDX8_readMan 114 rfl rfl) rfl hlv (lv' := [(2, .int (Int32.ofNat q)), (3, .int (Int32.ofNat q)), (0, .ref (b 94)), (1, .int (Int32.ofNat (3 * l)))]) (by decide) rfl (fun ls hlv => ?_)
              refine lv_goto C.1 C.2.1 (zda zDX8_readMan 115 rfl rfl) (tgt := 44) (by decide) ?_
              refine ih _ _ ws H locs ls _ (a1 + 1) (k ||| 2 ^ q) (by omega) hv ⟨hR, hL, hT, rfl, hU, hn, ht, by omega⟩ (zOth_u ho (Or.inl rfl)) (zOtA_u hoA) (by omega) (by omega) hDs (by show upd (g1 101) (3 * l + 2) _ (3 * l + 2) = _; unfold upd; rw [if_pos rfl]) (by omega) (by rw [zon (by omega)]; omega) (by rw [zon (by omega)]; omega) ?_ ?_ (lv_sub hlv [0, 2, 3] rfl)
              · rw [zon (by omega), show ((q : Int) + 1).toNat = q + 1 by omega]
                exact Nat.or_lt_two_pow (Nat.lt_of_lt_of_le hkq (Nat.pow_le_pow_right (by decide) (by omega))) (Nat.pow_lt_pow_right (by decide) (by omega))
              · intro _
                rw [zon (by omega)]
                exact Nat.right_le_or
            · rw [Int32.lt_iff_toInt_lt, zon (show q < 1000 by omega)] at h75
              rw [if_neg (fun h => h75 (hgm.mpr h))] at hDs
              refine lv_aload_n C.1 C.2.1 (zda zDX8_readMan 78 rfl rfl) rfl (lv_at hlv 2 rfl) ?_
              refine lv_aload_n C.1 C.2.1 (zda zDX8_readMan 79 rfl rfl) rfl (lv_at hlv 2 rfl) ?_
              refine zV_get C (zda zDX8_readMan 80 rfl rfl) (show vwCl[8]? = some (RX8, TX8, 51) from rfl) zinX8 (by decide) zw1187 hv zvk94 (show 94 < 126 by decide) rfl (j := 15) hA ?_
              refine zV_callV C (zr_faultY hU (by omega)) rfl rfl (by decide) (by decide) (show vwCl[8]? = some (RX8, TX8, 51) from rfl) zw1356 zw1353 zw1355 zs99 zw16 (n := 1) (by decide +kernel) (zda zDX8_readMan 83 rfl rfl) rfl zvk94 (show 94 < 126 by decide) hv hlv.1 (by show 0 ≤ 8; decide) (Nat.zero_le _) (Nat.zero_le _) (fun v f9 g9 ws H locs hp hv => ?_)
              obtain ⟨rfl, rfl, rfl⟩ := hp
              refine lv_goto C.1 C.2.1 (zda zDX8_readMan 86 rfl rfl) (tgt := 115) (by decide) ?_
              refine lv_goto C.1 C.2.1 (zda zDX8_readMan 115 rfl rfl) (tgt := 44) (by decide) ?_
              exact endF _ _ ws H locs ls _ a1 hv ⟨hR, hL, hT, hA, rfl, hn, ht, ha⟩ (zOth_u ho (Or.inr rfl)) hoA haa ⟨_, hD1, han1, ha, Or.inl ⟨hlt.1, hlt.2, hDs⟩⟩ (lv_sub hlv [1, 2, 3] rfl)
        · refine zV_callS C (zr_inF hin) rfl rfl (by decide) (by decide) zw1336 zw1334 zw1335 zw16 (n := 3) (by decide +kernel) (zda zDX8_readMan 59 rfl rfl) rfl hv hlv.1 (by show 0 ≤ 8; decide) (Nat.zero_le _) (Nat.zero_le _) (fun v f9 g9 ws H locs hp hv => ?_)
          obtain ⟨rfl, rfl, rfl⟩ := hp
          refine lv_if_eq C.1 C.2.1 (zda zDX8_readMan 62 rfl rfl) (tgt := 118) (by decide) (fun h62 => ?_) (fun h62 => ?_)
          · exact hret 118 ls none _ _ _ _ _ ⟨rfl, (zda zDX8_readMan 118 rfl rfl)⟩ hv (⟨rfl, ho, hoA, a1, _, hr1, haa, Or.inl ⟨rfl, han1, ⟨k, hD1⟩, by rw [hg99] at hin; exact hin⟩⟩)
          · exact absurd rfl h62
  obtain ⟨hR, hL, hT, hA, hU, hn, ht, ha⟩ := id hr
  have hS : a < n → a < t → zhe (g 99) n t a = zSg (g 99) a := fun h1 h2 => zhe_i h1 h2
  refine lv_aload_n C.1 C.2.1 (zda zDX8_readMan 0 rfl rfl) rfl (lv_at hlv 0 rfl) ?_
  refine zV_get C (zda zDX8_readMan 1 rfl rfl) (show vwCl[8]? = some (RX8, TX8, 51) from rfl) zinX8 (by decide) zw1189 hv zvk94 (show 94 < 126 by decide) rfl (j := 17) (zV_ref hv zvk94 (show 94 < 126 by decide) rfl) ?_
  refine lv_iload_n C.1 C.2.1 (zda zDX8_readMan 4 rfl rfl) rfl (lv_at hlv 1 rfl) ?_
  refine lv_aload_n C.1 C.2.1 (zda zDX8_readMan 5 rfl rfl) rfl (lv_at hlv 0 rfl) ?_
  refine lv_bipush C.1 C.2.1 (zda zDX8_readMan 6 rfl rfl) rfl ?_
  refine lv_iconst C.1 C.2.1 (zda zDX8_readMan 8 rfl rfl) rfl ?_
  have hl3 := zon (show 3 * l < 1000 by omega)
  have hDs := zD_s hD
  by_cases hc1 : ¬ zhe (g 99) n t a < (Int8.ofInt 49).toInt32 ∧ ¬ (Int8.ofInt 49).toInt32 + Int32.ofInt 4 - Int32.ofInt 1 < zhe (g 99) n t a
  · have h1 : a < n ∧ a < t := by
      by_cases h : a < n ∧ a < t
      · exact h
      · have hc2 := hc1.1
        rw [zhe_o h, Int32.lt_iff_toInt_lt, zi49, zm1] at hc2
        omega
    have hc1' := hc1
    rw [hS h1.1 h1.2, Int32.lt_iff_toInt_lt, Int32.lt_iff_toInt_lt, zi49, zi52] at hc1'
    have hDa : zD c (zSg (g 99)) (a + 1) = some (1, l, 0) := by
      rw [hDs]
      show (if 49 ≤ (zSg (g 99) a).toInt ∧ (zSg (g 99) a).toInt ≤ 52 ∧ c + l < 8 then some (1, l, 0) else none) = _
      rw [if_pos (by omega)]
    have hrg := zV_rn3 hv zvk99 (show 99 < 126 by decide) zvl99 (show a < 80 by omega)
    refine zV_callV C (zr_oneY hr hc1 (by decide)) rfl rfl (by decide) (by decide) (show vwCl[8]? = some (RX8, TX8, 51) from rfl) zw1364 zw1361 zw1363 zs101 zw16 (n := 2) (by decide +kernel) (zda zDX8_readMan 9 rfl rfl) rfl zvk94 (show 94 < 126 by decide) hv hlv.1 (by show 2 ≤ 8; decide) (Nat.zero_le _) (Nat.zero_le _) (fun v f9 g9 ws H locs hp hv => ?_)
    obtain ⟨rfl, rfl, rfl⟩ := hp
    refine lv_iconst C.1 C.2.1 (zda zDX8_readMan 12 rfl rfl) rfl ?_
    refine lv_iadd C.1 C.2.1 (zda zDX8_readMan 13 rfl rfl) ?_
    refine zV_st0 C (zda zDX8_readMan 14 rfl rfl) hv zvk101 (show 101 < 126 by decide) (i := 3 * l) (hl3) (by omega) (zelr_ok zve101 (by omega) (by show (-1000 : Int) ≤ _; (rw [zdig hrg]; omega)) (by show _ ≤ (1000 : Int); (rw [zdig hrg]; omega))) (fun ws H locs hv => ?_)
    have hr2 : zRr b (zuv f 94 15 (.int (Int32.ofNat (a + 1)))) n t (a + 1) (Int32.ofInt (-1)) := ⟨hR, hL, hT, rfl, hU, hn, ht, by omega⟩
    have hDb := zD_s hDa
    obtain ⟨g1, hg1⟩ : ∃ g1, g1 = zua g 101 (3 * l) (g 99 a - (Int8.ofInt 49).toInt32 + Int32.ofInt 1) := ⟨_, rfl⟩
    rw [← hg1] at hv
    have hoA1 : zOtA g g1 := by rw [hg1]; exact zOtA_u zOtA_rf
    have h99 : g1 99 = g 99 := hoA1 99 (by decide)
    refine lv_aload_n C.1 C.2.1 (zda zDX8_readMan 15 rfl rfl) rfl (lv_at hlv 0 rfl) ?_
    refine zV_get C (zda zDX8_readMan 16 rfl rfl) (show vwCl[8]? = some (RX8, TX8, 51) from rfl) zinX8 (by decide) zw1189 hv zvk94 (show 94 < 126 by decide) rfl (j := 17) (zV_ref hv zvk94 (show 94 < 126 by decide) rfl) ?_
    refine lv_iload_n C.1 C.2.1 (zda zDX8_readMan 19 rfl rfl) rfl (lv_at hlv 1 rfl) ?_
    refine lv_iconst C.1 C.2.1 (zda zDX8_readMan 20 rfl rfl) rfl ?_
    refine lv_iadd C.1 C.2.1 (zda zDX8_readMan 21 rfl rfl) ?_
    refine lv_aload_n C.1 C.2.1 (zda zDX8_readMan 22 rfl rfl) rfl (lv_at hlv 0 rfl) ?_
    refine lv_bipush C.1 C.2.1 (zda zDX8_readMan 23 rfl rfl) rfl ?_
    refine lv_bipush C.1 C.2.1 (zda zDX8_readMan 25 rfl rfl) rfl ?_
    by_cases hc2 : ¬ zhe (g1 99) n t (a + 1) < (Int8.ofInt 49).toInt32 ∧ ¬ (Int8.ofInt 49).toInt32 + (Int8.ofInt 9).toInt32 - Int32.ofInt 1 < zhe (g1 99) n t (a + 1)
    · have h2 : a + 1 < n ∧ a + 1 < t := by
        by_cases h : a + 1 < n ∧ a + 1 < t
        · exact h
        · have hc3 := hc2.1
          rw [zhe_o h, Int32.lt_iff_toInt_lt, zi49, zm1] at hc3
          omega
      have hc2' := hc2
      rw [h99, zhe_S h2.1 h2.2, Int32.lt_iff_toInt_lt, Int32.lt_iff_toInt_lt, zi49, zi57] at hc2'
      have hDc : zD c (zSg (g 99)) (a + 1 + 1) = some (2, l + 1, 0) := by
        rw [hDb]
        show (if 49 ≤ (zSg (g 99) (a + 1)).toInt ∧ (zSg (g 99) (a + 1)).toInt ≤ 57 ∧ c + l < 8 then some (2, l + 1, 0) else none) = _
        rw [if_pos (by omega)]
      have hrg2 := zV_rn3 hv zvk99 (show 99 < 126 by decide) zvl99 (show a + 1 < 80 by omega)
      refine zV_callV C (zr_oneY hr2 hc2 (by decide)) rfl rfl (by decide) (by decide) (show vwCl[8]? = some (RX8, TX8, 51) from rfl) zw1364 zw1361 zw1363 zs101 zw16 (n := 2) (by decide +kernel) (zda zDX8_readMan 27 rfl rfl) rfl zvk94 (show 94 < 126 by decide) hv hlv.1 (by show 2 ≤ 8; decide) (Nat.zero_le _) (Nat.zero_le _) (fun v f9 g9 ws H locs hp hv => ?_)
      obtain ⟨rfl, rfl, rfl⟩ := hp
      refine lv_iconst C.1 C.2.1 (zda zDX8_readMan 30 rfl rfl) rfl ?_
      refine lv_iadd C.1 C.2.1 (zda zDX8_readMan 31 rfl rfl) ?_
      refine zV_st0 C (zda zDX8_readMan 32 rfl rfl) hv zvk101 (show 101 < 126 by decide) (i := 3 * l + 1) (by rw [zofa (k := 1) (by omega) (by decide) (by decide), zon (by omega)]) (by omega) (zelr_ok zve101 (by omega) (by show (-1000 : Int) ≤ _; (rw [zdig hrg2]; omega)) (by show _ ≤ (1000 : Int); (rw [zdig hrg2]; omega))) (fun ws H locs hv => ?_)
      refine lv_aload_n C.1 C.2.1 (zda zDX8_readMan 33 rfl rfl) rfl (lv_at hlv 0 rfl) ?_
      refine zV_get C (zda zDX8_readMan 34 rfl rfl) (show vwCl[8]? = some (RX8, TX8, 51) from rfl) zinX8 (by decide) zw1189 hv zvk94 (show 94 < 126 by decide) rfl (j := 17) (zV_ref hv zvk94 (show 94 < 126 by decide) rfl) ?_
      refine lv_iload_n C.1 C.2.1 (zda zDX8_readMan 37 rfl rfl) rfl (lv_at hlv 1 rfl) ?_
      refine lv_iconst C.1 C.2.1 (zda zDX8_readMan 38 rfl rfl) rfl ?_
      refine lv_iadd C.1 C.2.1 (zda zDX8_readMan 39 rfl rfl) ?_
      refine lv_iconst C.1 C.2.1 (zda zDX8_readMan 40 rfl rfl) rfl ?_
      refine zV_st0 C (zda zDX8_readMan 41 rfl rfl) hv zvk101 (show 101 < 126 by decide) (i := 3 * l + 2) (by rw [zofa (k := 2) (by omega) (by decide) (by decide), zon (by omega)]) (by omega) (zelr_ok zve101 (by omega) (by show (-1000 : Int) ≤ _; decide) (by show _ ≤ (1000 : Int); decide)) (fun ws H locs hv => ?_)
      refine lv_iconst C.1 C.2.1 (zda zDX8_readMan 42 rfl rfl) rfl ?_
      refine lv_istore_n C.1 C.2.1 (zda zDX8_readMan 43 rfl rfl) rfl hlv (lv' := [(2, .int (Int32.ofInt (-1))), (0, .ref (b 94)), (1, .int (Int32.ofNat (3 * l)))]) (by decide) rfl (fun ls hlv => ?_)
      refine loop (t + 1) _ _ _ _ _ ls _ (a + 1 + 1) 0 (by omega) hv ⟨hR, hL, hT, rfl, hU, hn, ht, by omega⟩ (zOth_u (zOth_u zOth_rf (Or.inl rfl)) (Or.inl rfl)) (zOtA_u (zOtA_u hoA1)) (by omega) (by omega) hDc (by show upd _ (3 * l + 2) _ (3 * l + 2) = _; unfold upd; rw [if_pos rfl]; decide) (by decide) (by decide) (by decide) (by decide) (fun h => absurd h (by decide)) hlv
    · refine zV_callV C (zr_oneN hr2 hc2) rfl rfl (by decide) (by decide) (show vwCl[8]? = some (RX8, TX8, 51) from rfl) zw1364 zw1361 zw1363 zs101 zw16 (n := 2) (by decide +kernel) (zda zDX8_readMan 27 rfl rfl) rfl zvk94 (show 94 < 126 by decide) hv hlv.1 (by show 2 ≤ 8; decide) (Nat.zero_le _) (Nat.zero_le _) (fun v f9 g9 ws H locs hp hv => ?_)
      obtain ⟨rfl, rfl, rfl⟩ := hp
      refine lv_iconst C.1 C.2.1 (zda zDX8_readMan 30 rfl rfl) rfl ?_
      refine lv_iadd C.1 C.2.1 (zda zDX8_readMan 31 rfl rfl) ?_
      refine zV_st0 C (zda zDX8_readMan 32 rfl rfl) hv zvk101 (show 101 < 126 by decide) (i := 3 * l + 1) (by rw [zofa (k := 1) (by omega) (by decide) (by decide), zon (by omega)]) (by omega) (zelr_ok zve101 (by omega) (by show (-1000 : Int) ≤ _; decide) (by show _ ≤ (1000 : Int); decide)) (fun ws H locs hv => ?_)
      refine lv_aload_n C.1 C.2.1 (zda zDX8_readMan 33 rfl rfl) rfl (lv_at hlv 0 rfl) ?_
      refine zV_get C (zda zDX8_readMan 34 rfl rfl) (show vwCl[8]? = some (RX8, TX8, 51) from rfl) zinX8 (by decide) zw1189 hv zvk94 (show 94 < 126 by decide) rfl (j := 17) (zV_ref hv zvk94 (show 94 < 126 by decide) rfl) ?_
      refine lv_iload_n C.1 C.2.1 (zda zDX8_readMan 37 rfl rfl) rfl (lv_at hlv 1 rfl) ?_
      refine lv_iconst C.1 C.2.1 (zda zDX8_readMan 38 rfl rfl) rfl ?_
      refine lv_iadd C.1 C.2.1 (zda zDX8_readMan 39 rfl rfl) ?_
      refine lv_iconst C.1 C.2.1 (zda zDX8_readMan 40 rfl rfl) rfl ?_
      refine zV_st0 C (zda zDX8_readMan 41 rfl rfl) hv zvk101 (show 101 < 126 by decide) (i := 3 * l + 2) (by rw [zofa (k := 2) (by omega) (by decide) (by decide), zon (by omega)]) (by omega) (zelr_ok zve101 (by omega) (by show (-1000 : Int) ≤ _; decide) (by show _ ≤ (1000 : Int); decide)) (fun ws H locs hv => ?_)
      refine lv_iconst C.1 C.2.1 (zda zDX8_readMan 42 rfl rfl) rfl ?_
      refine lv_istore_n C.1 C.2.1 (zda zDX8_readMan 43 rfl rfl) rfl hlv (lv' := [(2, .int (Int32.ofInt (-1))), (0, .ref (b 94)), (1, .int (Int32.ofNat (3 * l)))]) (by decide) rfl (fun ls hlv => ?_)
      refine endF _ _ _ _ _ ls _ (a + 1) hv ⟨hR, hL, hT, rfl, rfl, hn, ht, by omega⟩ (zOth_u (zOth_u zOth_rf (Or.inl rfl)) (Or.inr rfl)) (zOtA_u (zOtA_u hoA1)) (by omega) ⟨_, hDa, by omega, by omega, ?_⟩ hlv
      by_cases h : a + 1 < n ∧ a + 1 < t
      · refine Or.inl ⟨h.1, h.2, ?_⟩
        rw [h99, zhe_S h.1 h.2, Int32.lt_iff_toInt_lt, Int32.lt_iff_toInt_lt, zi49, zi57] at hc2
        rw [hDb]
        show (if 49 ≤ (zSg (g 99) (a + 1)).toInt ∧ (zSg (g 99) (a + 1)).toInt ≤ 57 ∧ c + l < 8 then some (2, l + 1, 0) else none) = none
        rw [if_neg (by omega)]
      · exact Or.inr ⟨by omega, by show 1 < 2; decide⟩
  · refine zV_callV C (zr_oneN hr hc1) rfl rfl (by decide) (by decide) (show vwCl[8]? = some (RX8, TX8, 51) from rfl) zw1364 zw1361 zw1363 zs101 zw16 (n := 2) (by decide +kernel) (zda zDX8_readMan 9 rfl rfl) rfl zvk94 (show 94 < 126 by decide) hv hlv.1 (by show 2 ≤ 8; decide) (Nat.zero_le _) (Nat.zero_le _) (fun v f9 g9 ws H locs hp hv => ?_)
    obtain ⟨rfl, rfl, rfl⟩ := hp
    refine lv_iconst C.1 C.2.1 (zda zDX8_readMan 12 rfl rfl) rfl ?_
    refine lv_iadd C.1 C.2.1 (zda zDX8_readMan 13 rfl rfl) ?_
    refine zV_st0 C (zda zDX8_readMan 14 rfl rfl) hv zvk101 (show 101 < 126 by decide) (i := 3 * l) (hl3) (by omega) (zelr_ok zve101 (by omega) (by show (-1000 : Int) ≤ _; decide) (by show _ ≤ (1000 : Int); decide)) (fun ws H locs hv => ?_)
    refine lv_aload_n C.1 C.2.1 (zda zDX8_readMan 15 rfl rfl) rfl (lv_at hlv 0 rfl) ?_
    refine zV_get C (zda zDX8_readMan 16 rfl rfl) (show vwCl[8]? = some (RX8, TX8, 51) from rfl) zinX8 (by decide) zw1189 hv zvk94 (show 94 < 126 by decide) rfl (j := 17) (zV_ref hv zvk94 (show 94 < 126 by decide) rfl) ?_
    refine lv_iload_n C.1 C.2.1 (zda zDX8_readMan 19 rfl rfl) rfl (lv_at hlv 1 rfl) ?_
    refine lv_iconst C.1 C.2.1 (zda zDX8_readMan 20 rfl rfl) rfl ?_
    refine lv_iadd C.1 C.2.1 (zda zDX8_readMan 21 rfl rfl) ?_
    refine lv_aload_n C.1 C.2.1 (zda zDX8_readMan 22 rfl rfl) rfl (lv_at hlv 0 rfl) ?_
    refine lv_bipush C.1 C.2.1 (zda zDX8_readMan 23 rfl rfl) rfl ?_
    refine lv_bipush C.1 C.2.1 (zda zDX8_readMan 25 rfl rfl) rfl ?_
    refine zV_callV C (zr_oneF (f := zuv f 94 16 (.int (Int32.ofNat a))) (U := Int32.ofNat a) ⟨hR, hL, hT, hA, rfl, hn, ht, ha⟩ (zne1 (by omega))) rfl rfl (by decide) (by decide) (show vwCl[8]? = some (RX8, TX8, 51) from rfl) zw1364 zw1361 zw1363 zs101 zw16 (n := 2) (by decide +kernel) (zda zDX8_readMan 27 rfl rfl) rfl zvk94 (show 94 < 126 by decide) hv hlv.1 (by show 2 ≤ 8; decide) (Nat.zero_le _) (Nat.zero_le _) (fun v f9 g9 ws H locs hp hv => ?_)
    obtain ⟨rfl, rfl, rfl⟩ := hp
    refine lv_iconst C.1 C.2.1 (zda zDX8_readMan 30 rfl rfl) rfl ?_
    refine lv_iadd C.1 C.2.1 (zda zDX8_readMan 31 rfl rfl) ?_
    refine zV_st0 C (zda zDX8_readMan 32 rfl rfl) hv zvk101 (show 101 < 126 by decide) (i := 3 * l + 1) (by rw [zofa (k := 1) (by omega) (by decide) (by decide), zon (by omega)]) (by omega) (zelr_ok zve101 (by omega) (by show (-1000 : Int) ≤ _; decide) (by show _ ≤ (1000 : Int); decide)) (fun ws H locs hv => ?_)
    refine lv_aload_n C.1 C.2.1 (zda zDX8_readMan 33 rfl rfl) rfl (lv_at hlv 0 rfl) ?_
    refine zV_get C (zda zDX8_readMan 34 rfl rfl) (show vwCl[8]? = some (RX8, TX8, 51) from rfl) zinX8 (by decide) zw1189 hv zvk94 (show 94 < 126 by decide) rfl (j := 17) (zV_ref hv zvk94 (show 94 < 126 by decide) rfl) ?_
    refine lv_iload_n C.1 C.2.1 (zda zDX8_readMan 37 rfl rfl) rfl (lv_at hlv 1 rfl) ?_
    refine lv_iconst C.1 C.2.1 (zda zDX8_readMan 38 rfl rfl) rfl ?_
    refine lv_iadd C.1 C.2.1 (zda zDX8_readMan 39 rfl rfl) ?_
    refine lv_iconst C.1 C.2.1 (zda zDX8_readMan 40 rfl rfl) rfl ?_
    refine zV_st0 C (zda zDX8_readMan 41 rfl rfl) hv zvk101 (show 101 < 126 by decide) (i := 3 * l + 2) (by rw [zofa (k := 2) (by omega) (by decide) (by decide), zon (by omega)]) (by omega) (zelr_ok zve101 (by omega) (by show (-1000 : Int) ≤ _; decide) (by show _ ≤ (1000 : Int); decide)) (fun ws H locs hv => ?_)
    refine lv_iconst C.1 C.2.1 (zda zDX8_readMan 42 rfl rfl) rfl ?_
    refine lv_istore_n C.1 C.2.1 (zda zDX8_readMan 43 rfl rfl) rfl hlv (lv' := [(2, .int (Int32.ofInt (-1))), (0, .ref (b 94)), (1, .int (Int32.ofNat (3 * l)))]) (by decide) rfl (fun ls hlv => ?_)
    refine endF _ _ _ _ _ ls _ a hv ⟨hR, hL, hT, hA, rfl, hn, ht, ha⟩ (zOth_u zOth_rf (Or.inr rfl)) (zOtA_u (zOtA_u (zOtA_u zOtA_rf))) (Nat.le_refl _) ⟨_, hD, han, ha, ?_⟩ hlv
    by_cases h : a < n ∧ a < t
    · refine Or.inl ⟨h.1, h.2, ?_⟩
      rw [hS h.1 h.2, Int32.lt_iff_toInt_lt, Int32.lt_iff_toInt_lt, zi49, zi52] at hc1
      rw [hDs]
      show (if 49 ≤ (zSg (g 99) a).toInt ∧ (zSg (g 99) a).toInt ≤ 52 ∧ c + l < 8 then some (1, l, 0) else none) = none
      rw [if_neg (by omega)]
    · exact Or.inr ⟨by omega, by show 0 < 2; decide⟩
end ZMAN
