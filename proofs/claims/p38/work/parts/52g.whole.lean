/-! sign(), end(), riders() whole -/
theorem zbb {k k0 : Nat} (h : k ≠ k0) (j : Nat) (hj : j < 64) : zbit (zdirt 0 k0 0) k j = false := by
  unfold zbit zdirt
  show (0 ||| 1 <<< (64 * k0 + 0)).testBit (64 * k + j) = false
  rw [Nat.zero_or, Nat.one_shiftLeft, Nat.testBit_two_pow]
  exact decide_eq_false (by omega)
theorem zuv_k {f : Nat → Nat → Value} {k0 j0 k j : Nat} {v : Value} (hk : k ≠ k0) : zuv f k0 j0 v k j = f k j := by
  unfold zuv
  rw [zbq_f hk, Bool.false_and]
theorem zuv1 {f : Nat → Nat → Value} {v : Value} {k j : Nat} (hk : k ≠ 1) : zuv f 1 1 v k j = f k j := zuv_k hk
theorem zuv4 {f : Nat → Nat → Value} {v1 v2 v3 v4 : Value} {k j : Nat} (hk : k ≠ 1) : zuv (zuv (zuv (zuv f 1 1 v1) 1 1 v2) 1 1 v3) 1 1 v4 k j = f k j := by rw [zuv_k hk, zuv_k hk, zuv_k hk, zuv_k hk]
theorem zuv942 {f : Nat → Nat → Value} {v w : Value} {k j : Nat} (hk : ¬ (k = 94 ∧ (j = 8 ∨ j = 11))) : zuv (zuv f 94 11 v) 94 8 w k j = f k j := by rw [zuv_n (by omega), zuv_n (by omega)]
theorem zuv94' {f : Nat → Nat → Value} {v v1 v2 v3 v4 : Value} {k j : Nat} (hk : ¬ (k = 94 ∧ (j = 8 ∨ j = 11))) : zuv (zuv (zuv (zuv (zuv f 94 11 v) 94 8 v1) 94 8 v2) 94 8 v3) 94 8 v4 k j = f k j := by rw [zuv_n (by omega), zuv_n (by omega), zuv_n (by omega), zuv_n (by omega), zuv_n (by omega)]
theorem zi80 : (Int8.ofInt 80).toInt32 = Int32.ofNat 80 := by decide
section ZWHO
variable {l0 : Launch} {D : va_G} {tys : List (ClassId × FieldType)} {o : zO} {z : Nat} {b : Nat → Nat} {f : Nat → Nat → Value} {g : Nat → Nat → Int32}
theorem zc_clear : zCt l0 D tys o z zyI b mX2_clear 2 300 [.ref (b 24)] f g (fun v f' g' => v = none ∧ f' = zuv f 24 2 (.int (Int32.ofInt 0)) ∧ g = g') := by
  refine zCt_of (mr := mX2_clear) (by decide) (by decide) (by decide) (show 1 ≤ 1 by decide) rfl rfl ?_
  intro p e s m below meth c0 Q ls ws C hret hv hlv
  replace C : zCx p { frames := 2, cells := 0, slots := 0, locals := 300 } s m ([.ref (b 24)] : List Value).toArray meth c0 D vwCl tys z (zXX o z) zTs RX2 cX2_clear 1 "clear" := C
  have hlv : lv_has ls 1 [(0, .ref (b 24))] := hlv
  refine lv_aload_n C.1 C.2.1 (zda zDX2_clear 0 rfl rfl) rfl (lv_at hlv 0 rfl) ?_
  refine lv_iconst C.1 C.2.1 (zda zDX2_clear 1 rfl rfl) rfl ?_
  refine zV_puti C (zda zDX2_clear 2 rfl rfl) (show vwCl[2]? = some (RX2, TX2, 3) from rfl) zinX2 tyX2 tyX2_ok nmX2 (j := 2) (by decide) zw342 rfl (by decide +kernel) hv zvk24 (show 24 < 126 by decide) rfl ⟨by show (-2147483648 : Int) ≤ _; decide, by show _ ≤ (2147483647 : Int); decide⟩ (fun ws H locs hv => ?_)
  exact hret 5 ls none _ _ _ _ _ ⟨rfl, (zda zDX2_clear 5 rfl rfl)⟩ hv (⟨rfl, rfl, rfl⟩)
set_option maxRecDepth 100000 in
theorem zc_fk_t : zrunw zprog2 (zovW []) 1000 zcut0 5 1000 mX7_forgetKept.2.2.2.2.2.2 (zkin none (zyI.1, zyI.2.1, zdirt 0 63 0)) 0 (zargs 0 [.inr (.inr (.inl 0))], [], (zyI.1, zyI.2.1, 0), 0, 0) = true := by decide +kernel
theorem zc_fk (E : zEnv tys) : zCt l0 D tys o z zyI b mX7_forgetKept 5 1000 [.ref (b 0)] f g (fun v f' g' => v = none ∧ (∀ k j, k ≠ 63 → j < 64 → f' k j = f k j) ∧ ∀ k, k ≠ 63 → g' k = g k) := by
  have hM : zMet l0 D vwCl tys o z (zXX o z) zTs mX7_forgetKept 5 1000 zyI [.inr (.inr (.inl 0))] (zkin none (zyI.1, zyI.2.1, zdirt 0 63 0)) := zMet_run (fun g => zovW_ok (fun d h => absurd h List.not_mem_nil)) zXX_ok (fun g => zprog2_ok (o := zwith o g) E) (show zget zprog2 122 = some mX7_forgetKept from rfl) (by decide) (by decide) (show 1 ≤ 2 by decide) (show 1 ≤ 700 by decide) zc_fk_t
  refine zCt_mono (zCt_met hM (fun ws hw hb => ⟨⟨b 0, ?_, rfl⟩, trivial⟩)) (fun v f' g' h => ?_)
  · obtain ⟨c, a, e, h1, h2, h3⟩ := hw.2 0 (show 0 < 126 by decide)
    rw [zad_of h2, ← hb, zwB_of h2]
  · obtain ⟨⟨ad, h1⟩, h2, h3⟩ := h
    refine ⟨?_, fun k j hk hj => h2 k j (zbb hk j hj), fun k hk => h3 k (zbb hk 0 (by decide))⟩
    cases v with
    | none => rfl
    | some w => exact (show False from h1).elim
set_option maxHeartbeats 8000000 in
theorem zc_riders (E : zEnv tys) {c n : Nat} (hM : f 3 6 = .int (Int32.ofNat c)) (hy : f 1 1 = .int (Int32.ofNat n)) (hc : c ≤ 8) (hn : n ≤ 80) : zCt l0 D tys o z zyI b mX7_riders 20 2500 [.ref (b 0)] f g (fun v f' g' => ∃ ans c', v = some (.int ans) ∧ f' 3 6 = .int (Int32.ofNat c') ∧ f' 1 1 = .int (Int32.ofNat 0) ∧ (∀ k j, ¬ (k = 3 ∧ j = 6) → k ≠ 1 → k ≠ 24 → k ≠ 63 → j < 64 → f' k j = f k j) ∧ g' 2 = g 2 ∧ g' 99 = g 99 ∧ zAn c (g 2) n ans c') := by
  refine zCt_of (mr := mX7_riders) (by decide) (by decide) (by decide) (show 1 ≤ 2 by decide) rfl rfl ?_
  intro p e s m below meth c0 Q ls ws C hret hv hlv
  replace C : zCx p { frames := 20, cells := 0, slots := 0, locals := 2500 } s m ([.ref (b 0)] : List Value).toArray meth c0 D vwCl tys z (zXX o z) zTs RX7 cX7_riders 2 "riders" := C
  have hlv : lv_has ls 2 [(0, .ref (b 0))] := hlv
  refine lv_aload_n C.1 C.2.1 (zda zDX7_riders 0 rfl rfl) rfl (lv_at hlv 0 rfl) ?_
  refine zV_get C (zda zDX7_riders 1 rfl rfl) (show vwCl[7]? = some (RX7, TX7, 16) from rfl) zinX7 (by decide) zw424 hv zvk0 (show 0 < 126 by decide) rfl (j := 1) (zV_ref hv zvk0 (show 0 < 126 by decide) rfl) ?_
  refine lv_aload_n C.1 C.2.1 (zda zDX7_riders 4 rfl rfl) rfl (lv_at hlv 0 rfl) ?_
  refine zV_get C (zda zDX7_riders 5 rfl rfl) (show vwCl[7]? = some (RX7, TX7, 16) from rfl) zinX7 (by decide) zw423 hv zvk0 (show 0 < 126 by decide) rfl (j := 0) (zV_ref hv zvk0 (show 0 < 126 by decide) rfl) ?_
  refine zV_callN C (zc_read hM hy hc hn) rfl rfl (by decide) (by decide) (show vwCl[0]? = some (RX0, TX0, 12) from rfl) zw495 (fun U H h => zn40 h) zw494 zs12 zw3 (n := 1) (by decide +kernel) (zda zDX7_riders 8 rfl rfl) rfl zvk3 (show 3 < 126 by decide) hv hlv.1 (by show 0 ≤ 8; decide) (Nat.zero_le _) (Nat.zero_le _) (fun v f9 g9 ws H locs hp hv => ?_)
  obtain ⟨ans, c', rfl, hf, hoC, hAn⟩ := hp
  have hf3 : f9 3 6 = .int (Int32.ofNat c') := by
    rcases hf with rfl | ⟨rfl, rfl⟩
    · rfl
    · exact hM
  have hfo : ∀ k j, ¬ (k = 3 ∧ j = 6) → f9 k j = f k j := by
    intro k j hkj
    rcases hf with rfl | ⟨rfl, rfl⟩
    · exact zuv_n hkj
    · rfl
  refine lv_istore_n C.1 C.2.1 (zda zDX7_riders 11 rfl rfl) rfl hlv (lv' := [(1, .int (ans)), (0, .ref (b 0))]) (by decide) rfl (fun ls hlv => ?_)
  refine lv_aload_n C.1 C.2.1 (zda zDX7_riders 12 rfl rfl) rfl (lv_at hlv 1 rfl) ?_
  refine zV_get C (zda zDX7_riders 13 rfl rfl) (show vwCl[7]? = some (RX7, TX7, 16) from rfl) zinX7 (by decide) zw423 hv zvk0 (show 0 < 126 by decide) rfl (j := 0) (zV_ref hv zvk0 (show 0 < 126 by decide) rfl) ?_
  refine zV_callN C (zc_empty) rfl rfl (by decide) (by decide) (show vwCl[6]? = some (RX6, TX6, 2) from rfl) zw520 (fun U H h => zn42 h) zw519 zs18 zw2 (n := 0) (by decide +kernel) (zda zDX7_riders 16 rfl rfl) rfl zvk1 (show 1 < 126 by decide) hv hlv.1 (by show 0 ≤ 8; decide) (Nat.zero_le _) (Nat.zero_le _) (fun v f9 g9 ws H locs hp hv => ?_)
  obtain ⟨rfl, rfl, rfl⟩ := hp
  refine lv_iload_n C.1 C.2.1 (zda zDX7_riders 19 rfl rfl) rfl (lv_at hlv 0 rfl) ?_
  refine lv_if_le C.1 C.2.1 (zda zDX7_riders 20 rfl rfl) (tgt := 34) (by decide) (fun h20 => ?_) (fun h20 => ?_)
  · refine lv_iload_n C.1 C.2.1 (zda zDX7_riders 34 rfl rfl) rfl (lv_at hlv 0 rfl) ?_
    exact hret 35 ls (some _) _ _ _ _ _ (Or.inl ⟨_, .int, rfl, rfl, rfl, (zda zDX7_riders 35 rfl rfl)⟩) hv (⟨_, c', rfl, hf3, rfl, fun k j h1 h2 h3 h4 h5 => (zuv_n (fun q => h2 q.1)).trans (hfo k j h1), hoC 2 (by decide) (by decide) (by decide), hoC 99 (by decide) (by decide) (by decide), hAn⟩)
  · refine lv_aload_n C.1 C.2.1 (zda zDX7_riders 23 rfl rfl) rfl (lv_at hlv 1 rfl) ?_
    refine zV_get C (zda zDX7_riders 24 rfl rfl) (show vwCl[7]? = some (RX7, TX7, 16) from rfl) zinX7 (by decide) zw428 hv zvk0 (show 0 < 126 by decide) rfl (j := 5) (zV_ref hv zvk0 (show 0 < 126 by decide) rfl) ?_
    refine zV_callN C (zc_clear) rfl rfl (by decide) (by decide) (show vwCl[2]? = some (RX2, TX2, 3) from rfl) zw524 (fun U H h => zn43 h) zw523 zs19 zw13 (n := 0) (by decide +kernel) (zda zDX7_riders 27 rfl rfl) rfl zvk24 (show 24 < 126 by decide) hv hlv.1 (by show 0 ≤ 8; decide) (Nat.zero_le _) (Nat.zero_le _) (fun v f9 g9 ws H locs hp hv => ?_)
    obtain ⟨rfl, rfl, rfl⟩ := hp
    refine lv_aload_n C.1 C.2.1 (zda zDX7_riders 30 rfl rfl) rfl (lv_at hlv 1 rfl) ?_
    refine zV_callV C (zc_fk E) rfl rfl (by decide) (by decide) (show vwCl[7]? = some (RX7, TX7, 16) from rfl) zw528 zw525 zw527 zs20 zw1 (n := 0) (by decide +kernel) (zda zDX7_riders 31 rfl rfl) rfl zvk0 (show 0 < 126 by decide) hv hlv.1 (by show 0 ≤ 8; decide) (Nat.zero_le _) (Nat.zero_le _) (fun v f9 g9 ws H locs hp hv => ?_)
    obtain ⟨rfl, hF, hG⟩ := hp
    refine lv_iload_n C.1 C.2.1 (zda zDX7_riders 34 rfl rfl) rfl (lv_at hlv 0 rfl) ?_
    exact hret 35 ls (some _) _ _ _ _ _ (Or.inl ⟨_, .int, rfl, rfl, rfl, (zda zDX7_riders 35 rfl rfl)⟩) hv (⟨_, c', rfl, (hF 3 6 (by decide) (by decide)).trans hf3, hF 1 1 (by decide) (by decide), fun k j h1 h2 h3 h4 h5 => (hF k j h4 h5).trans ((zuv_n (fun q => h3 q.1)).trans ((zuv_n (fun q => h2 q.1)).trans (hfo k j h1))), (hG 2 (by decide)).trans (hoC 2 (by decide) (by decide) (by decide)), (hG 99 (by decide)).trans (hoC 99 (by decide) (by decide) (by decide)), hAn⟩)
end ZWHO
/-- four signs behind a text -/
def zc4 (v : Int32) (k : Nat) : Int32 := (v.toUInt32 >>> ((Int32.ofInt (8 * (k : Int))).toUInt32 &&& Int32.toUInt32 31)).toInt32 &&& Int32.ofInt 255
def zr4 (v : Int32) (k : Nat) : Int32 := (v >>> ((Int8.ofInt 8).toInt32 * Int32.ofInt (k : Int) &&& 31)).toInt8.toInt32
theorem zb255 (y : BitVec 32) : BitVec.signExtend 32 (BitVec.setWidth 8 y) &&& 255#32 = y &&& 255#32 := by
  apply BitVec.eq_of_getLsbD_eq
  intro i hi
  rw [BitVec.getLsbD_and, BitVec.getLsbD_and]
  by_cases h : i < 8
  · rw [BitVec.getLsbD_signExtend, BitVec.getLsbD_setWidth]
    simp [h, hi]
  · have h2 : (255#32).getLsbD i = false := by
      rw [show (255#32) = BitVec.setWidth 32 (BitVec.allOnes 8) by decide, BitVec.getLsbD_setWidth, BitVec.getLsbD_allOnes]
      simp [h]
    rw [h2, Bool.and_false, Bool.and_false]
theorem zb255s (y : BitVec 32) : BitVec.signExtend 32 (BitVec.signExtend 8 y) &&& 255#32 = y &&& 255#32 := by
  apply BitVec.eq_of_getLsbD_eq
  intro i hi
  rw [BitVec.getLsbD_and, BitVec.getLsbD_and]
  by_cases h : i < 8
  · rw [BitVec.getLsbD_signExtend, BitVec.getLsbD_signExtend]
    simp [h, hi]
  · have h2 : (255#32).getLsbD i = false := by
      rw [show (255#32) = BitVec.setWidth 32 (BitVec.allOnes 8) by decide, BitVec.getLsbD_setWidth, BitVec.getLsbD_allOnes]
      simp [h]
    rw [h2, Bool.and_false, Bool.and_false]
theorem zr4_b (x : Int32) : x.toInt8.toInt32 &&& Int32.ofInt 255 = x &&& Int32.ofInt 255 := by
  apply Int32.toBitVec_inj.mp
  rw [Int32.toBitVec_and, Int32.toBitVec_and, show (Int32.ofInt 255).toBitVec = 255#32 by decide]
  first
    | exact zb255 x.toBitVec
    | (rw [Int8.toBitVec_toInt32, Int32.toBitVec_toInt8]; exact zb255s x.toBitVec)
section ZWHO2
variable {l0 : Launch} {D : va_G} {tys : List (ClassId × FieldType)} {o : zO} {z : Nat} {b : Nat → Nat} {f : Nat → Nat → Value} {g : Nat → Nat → Int32}
theorem zand255 (x : Int32) : 0 ≤ (x &&& Int32.ofInt 255).toInt ∧ (x &&& Int32.ofInt 255).toInt ≤ 255 := zand_r (x := x) (y := Int32.ofInt 255) (by decide)
theorem zi8r (x : Int32) : -128 ≤ (x.toInt8.toInt32).toInt ∧ (x.toInt8.toInt32).toInt ≤ 127 := by
  have h := Int8.toInt_lt x.toInt8
  have h2 := Int8.le_toInt x.toInt8
  rw [Int8.toInt_toInt32]
  omega
theorem zr4r (v : Int32) (k : Nat) : -128 ≤ (vp_nar .byte (zr4 v k)).toInt ∧ (vp_nar .byte (zr4 v k)).toInt ≤ 127 := zi8r _
set_option maxHeartbeats 8000000 in
theorem zc_add {n : Nat} {v0 : Int32} (hy : f 1 1 = .int (Int32.ofNat n)) (hn : n ≤ 80) : zCt l0 D tys o z zyI b mX6_add 2 300 [.ref (b 1), .int v0] f g (fun v f' g' => (80 < n + 4 ∧ v = some (.int (Int32.ofInt (-1))) ∧ f = f' ∧ g = g') ∨ (n + 4 ≤ 80 ∧ v = some (.int (Int32.ofNat (n + 4))) ∧ f' 1 1 = .int (Int32.ofNat (n + 4)) ∧ (∀ k j, k ≠ 1 → f' k j = f k j) ∧ g' = zua (zua (zua (zua g 2 n (zc4 v0 3)) 2 (n + 1) (zc4 v0 2)) 2 (n + 2) (zc4 v0 1)) 2 (n + 3) (zc4 v0 0))) := by
  refine zCt_of (mr := mX6_add) (by decide) (by decide) (by decide) (show 2 ≤ 3 by decide) rfl rfl ?_
  intro p e s m below meth c0 Q ls ws C hret hv hlv
  replace C : zCx p { frames := 2, cells := 0, slots := 0, locals := 300 } s m ([.ref (b 1), .int v0] : List Value).toArray meth c0 D vwCl tys z (zXX o z) zTs RX6 cX6_add 3 "add" := C
  have hlv : lv_has ls 3 [(0, .ref (b 1)), (1, .int v0)] := hlv
  refine lv_aload_n C.1 C.2.1 (zda zDX6_add 0 rfl rfl) rfl (lv_at hlv 0 rfl) ?_
  refine zV_get C (zda zDX6_add 1 rfl rfl) (show vwCl[6]? = some (RX6, TX6, 2) from rfl) zinX6 (by decide) zw38 hv zvk1 (show 1 < 126 by decide) rfl (j := 1) hy ?_
  refine lv_iconst C.1 C.2.1 (zda zDX6_add 4 rfl rfl) rfl ?_
  refine lv_iadd C.1 C.2.1 (zda zDX6_add 5 rfl rfl) ?_
  rw [zofa (k := 4) (show n < 1000 by omega) (by decide) (by decide)]
  refine lv_bipush C.1 C.2.1 (zda zDX6_add 6 rfl rfl) rfl ?_
  refine lv_icmp_le C.1 C.2.1 (zda zDX6_add 8 rfl rfl) (tgt := 13) (by decide) (fun h8 => ?_) (fun h8 => ?_)
  · rw [zi80, zol (by omega) (by omega)] at h8
    refine lv_bipush C.1 C.2.1 (zda zDX6_add 13 rfl rfl) rfl ?_
    rw [show (Int8.ofInt 24).toInt32 = Int32.ofInt (8 * ((3 : Nat) : Int)) by decide]
    refine lv_istore_n C.1 C.2.1 (zda zDX6_add 15 rfl rfl) rfl hlv (lv' := [(2, .int (Int32.ofInt (8 * ((3 : Nat) : Int)))), (0, .ref (b 1)), (1, .int (v0))]) (by decide) rfl (fun ls hlv => ?_)
    refine lv_iload_n C.1 C.2.1 (zda zDX6_add 16 rfl rfl) rfl (lv_at hlv 0 rfl) ?_
    refine lv_if_lt C.1 C.2.1 (zda zDX6_add 17 rfl rfl) (tgt := 52) (by decide) (fun h17 => ?_) (fun h17 => ?_)
    · exact absurd h17 (by decide)
    · refine lv_aload_n C.1 C.2.1 (zda zDX6_add 20 rfl rfl) rfl (lv_at hlv 1 rfl) ?_
      refine zV_get C (zda zDX6_add 21 rfl rfl) (show vwCl[6]? = some (RX6, TX6, 2) from rfl) zinX6 (by decide) zw37 hv zvk1 (show 1 < 126 by decide) rfl (j := 0) (zV_ref hv zvk1 (show 1 < 126 by decide) rfl) ?_
      refine lv_aload_n C.1 C.2.1 (zda zDX6_add 24 rfl rfl) rfl (lv_at hlv 1 rfl) ?_
      refine zV_get C (zda zDX6_add 25 rfl rfl) (show vwCl[6]? = some (RX6, TX6, 2) from rfl) zinX6 (by decide) zw38 hv zvk1 (show 1 < 126 by decide) rfl (j := 1) hy ?_
      refine lv_iload_n C.1 C.2.1 (zda zDX6_add 28 rfl rfl) rfl (lv_at hlv 2 rfl) ?_
      refine lv_iload_n C.1 C.2.1 (zda zDX6_add 29 rfl rfl) rfl (lv_at hlv 0 rfl) ?_
      refine lv_iushr C.1 C.2.1 (zda zDX6_add 30 rfl rfl) rfl ?_
      refine lv_sipush C.1 C.2.1 (zda zDX6_add 31 rfl rfl) (v := Int32.ofInt 255) (by decide) ?_
      refine lv_iand C.1 C.2.1 (zda zDX6_add 34 rfl rfl) ?_
      rw [show (v0.toUInt32 >>> ((Int32.ofInt (8 * ((3 : Nat) : Int))).toUInt32 &&& Int32.toUInt32 31)).toInt32 &&& Int32.ofInt 255 = zc4 v0 3 from rfl]
      have hr0 := zand255 ((v0.toUInt32 >>> ((Int32.ofInt (8 * ((3 : Nat) : Int))).toUInt32 &&& Int32.toUInt32 31)).toInt32)
      refine zV_st0 C (zda zDX6_add 35 rfl rfl) hv zvk2 (show 2 < 126 by decide) (i := n) (zon (by omega)) (by omega) (zelr_ok zve2 (by omega) (by show (0 : Int) ≤ _; exact hr0.1) (by show _ ≤ (255 : Int); exact hr0.2)) (fun ws H locs hv => ?_)
      refine lv_aload_n C.1 C.2.1 (zda zDX6_add 36 rfl rfl) rfl (lv_at hlv 1 rfl) ?_
      refine lv_dup C.1 C.2.1 (zda zDX6_add 37 rfl rfl) rfl ?_
      refine zV_get C (zda zDX6_add 38 rfl rfl) (show vwCl[6]? = some (RX6, TX6, 2) from rfl) zinX6 (by decide) zw38 hv zvk1 (show 1 < 126 by decide) rfl (j := 1) hy ?_
      refine lv_iconst C.1 C.2.1 (zda zDX6_add 41 rfl rfl) rfl ?_
      refine lv_iadd C.1 C.2.1 (zda zDX6_add 42 rfl rfl) ?_
      rw [zsuc (show n < 1000 by omega)]
      have hs0 := zon (show n + 1 < 1000 by omega)
      refine zV_puti C (zda zDX6_add 43 rfl rfl) (show vwCl[6]? = some (RX6, TX6, 2) from rfl) zinX6 tyX6 tyX6_ok nmX6 (j := 1) (by decide) zw38 rfl (by decide +kernel) hv zvk1 (show 1 < 126 by decide) rfl ⟨by show (0 : Int) ≤ _; omega, by show _ ≤ (80 : Int); omega⟩ (fun ws H locs hv => ?_)
      refine lv_iinc C.1 C.2.1 (zda zDX6_add 46 rfl rfl) hlv (k := 0) rfl rfl (by decide) (lv' := [(2, .int ((Int32.ofInt (8 * ((3 : Nat) : Int))) + Int32.ofInt (-8))), (0, .ref (b 1)), (1, .int (v0))]) rfl (fun ls hlv => ?_)
      refine lv_goto C.1 C.2.1 (zda zDX6_add 49 rfl rfl) (tgt := 16) (by decide) ?_
      rw [show Int32.ofInt (8 * ((3 : Nat) : Int)) + Int32.ofInt (-8) = Int32.ofInt (8 * ((2 : Nat) : Int)) by decide] at hlv
      refine lv_iload_n C.1 C.2.1 (zda zDX6_add 16 rfl rfl) rfl (lv_at hlv 0 rfl) ?_
      refine lv_if_lt C.1 C.2.1 (zda zDX6_add 17 rfl rfl) (tgt := 52) (by decide) (fun h17 => ?_) (fun h17 => ?_)
      · exact absurd h17 (by decide)
      · refine lv_aload_n C.1 C.2.1 (zda zDX6_add 20 rfl rfl) rfl (lv_at hlv 1 rfl) ?_
        refine zV_get C (zda zDX6_add 21 rfl rfl) (show vwCl[6]? = some (RX6, TX6, 2) from rfl) zinX6 (by decide) zw37 hv zvk1 (show 1 < 126 by decide) rfl (j := 0) (zV_ref hv zvk1 (show 1 < 126 by decide) rfl) ?_
        refine lv_aload_n C.1 C.2.1 (zda zDX6_add 24 rfl rfl) rfl (lv_at hlv 1 rfl) ?_
        refine zV_get C (zda zDX6_add 25 rfl rfl) (show vwCl[6]? = some (RX6, TX6, 2) from rfl) zinX6 (by decide) zw38 hv zvk1 (show 1 < 126 by decide) rfl (j := 1) rfl ?_
        refine lv_iload_n C.1 C.2.1 (zda zDX6_add 28 rfl rfl) rfl (lv_at hlv 2 rfl) ?_
        refine lv_iload_n C.1 C.2.1 (zda zDX6_add 29 rfl rfl) rfl (lv_at hlv 0 rfl) ?_
        refine lv_iushr C.1 C.2.1 (zda zDX6_add 30 rfl rfl) rfl ?_
        refine lv_sipush C.1 C.2.1 (zda zDX6_add 31 rfl rfl) (v := Int32.ofInt 255) (by decide) ?_
        refine lv_iand C.1 C.2.1 (zda zDX6_add 34 rfl rfl) ?_
        rw [show (v0.toUInt32 >>> ((Int32.ofInt (8 * ((2 : Nat) : Int))).toUInt32 &&& Int32.toUInt32 31)).toInt32 &&& Int32.ofInt 255 = zc4 v0 2 from rfl]
        have hr1 := zand255 ((v0.toUInt32 >>> ((Int32.ofInt (8 * ((2 : Nat) : Int))).toUInt32 &&& Int32.toUInt32 31)).toInt32)
        refine zV_st0 C (zda zDX6_add 35 rfl rfl) hv zvk2 (show 2 < 126 by decide) (i := n + 1) (zon (by omega)) (by omega) (zelr_ok zve2 (by omega) (by show (0 : Int) ≤ _; exact hr1.1) (by show _ ≤ (255 : Int); exact hr1.2)) (fun ws H locs hv => ?_)
        refine lv_aload_n C.1 C.2.1 (zda zDX6_add 36 rfl rfl) rfl (lv_at hlv 1 rfl) ?_
        refine lv_dup C.1 C.2.1 (zda zDX6_add 37 rfl rfl) rfl ?_
        refine zV_get C (zda zDX6_add 38 rfl rfl) (show vwCl[6]? = some (RX6, TX6, 2) from rfl) zinX6 (by decide) zw38 hv zvk1 (show 1 < 126 by decide) rfl (j := 1) rfl ?_
        refine lv_iconst C.1 C.2.1 (zda zDX6_add 41 rfl rfl) rfl ?_
        refine lv_iadd C.1 C.2.1 (zda zDX6_add 42 rfl rfl) ?_
        rw [zsuc (show n + 1 < 1000 by omega)]
        have hs1 := zon (show n + 1 + 1 < 1000 by omega)
        refine zV_puti C (zda zDX6_add 43 rfl rfl) (show vwCl[6]? = some (RX6, TX6, 2) from rfl) zinX6 tyX6 tyX6_ok nmX6 (j := 1) (by decide) zw38 rfl (by decide +kernel) hv zvk1 (show 1 < 126 by decide) rfl ⟨by show (0 : Int) ≤ _; omega, by show _ ≤ (80 : Int); omega⟩ (fun ws H locs hv => ?_)
        refine lv_iinc C.1 C.2.1 (zda zDX6_add 46 rfl rfl) hlv (k := 0) rfl rfl (by decide) (lv' := [(2, .int ((Int32.ofInt (8 * ((2 : Nat) : Int))) + Int32.ofInt (-8))), (0, .ref (b 1)), (1, .int (v0))]) rfl (fun ls hlv => ?_)
        refine lv_goto C.1 C.2.1 (zda zDX6_add 49 rfl rfl) (tgt := 16) (by decide) ?_
        rw [show Int32.ofInt (8 * ((2 : Nat) : Int)) + Int32.ofInt (-8) = Int32.ofInt (8 * ((1 : Nat) : Int)) by decide] at hlv
        refine lv_iload_n C.1 C.2.1 (zda zDX6_add 16 rfl rfl) rfl (lv_at hlv 0 rfl) ?_
        refine lv_if_lt C.1 C.2.1 (zda zDX6_add 17 rfl rfl) (tgt := 52) (by decide) (fun h17 => ?_) (fun h17 => ?_)
        · exact absurd h17 (by decide)
        · refine lv_aload_n C.1 C.2.1 (zda zDX6_add 20 rfl rfl) rfl (lv_at hlv 1 rfl) ?_
          refine zV_get C (zda zDX6_add 21 rfl rfl) (show vwCl[6]? = some (RX6, TX6, 2) from rfl) zinX6 (by decide) zw37 hv zvk1 (show 1 < 126 by decide) rfl (j := 0) (zV_ref hv zvk1 (show 1 < 126 by decide) rfl) ?_
          refine lv_aload_n C.1 C.2.1 (zda zDX6_add 24 rfl rfl) rfl (lv_at hlv 1 rfl) ?_
          refine zV_get C (zda zDX6_add 25 rfl rfl) (show vwCl[6]? = some (RX6, TX6, 2) from rfl) zinX6 (by decide) zw38 hv zvk1 (show 1 < 126 by decide) rfl (j := 1) rfl ?_
          refine lv_iload_n C.1 C.2.1 (zda zDX6_add 28 rfl rfl) rfl (lv_at hlv 2 rfl) ?_
          refine lv_iload_n C.1 C.2.1 (zda zDX6_add 29 rfl rfl) rfl (lv_at hlv 0 rfl) ?_
          refine lv_iushr C.1 C.2.1 (zda zDX6_add 30 rfl rfl) rfl ?_
          refine lv_sipush C.1 C.2.1 (zda zDX6_add 31 rfl rfl) (v := Int32.ofInt 255) (by decide) ?_
          refine lv_iand C.1 C.2.1 (zda zDX6_add 34 rfl rfl) ?_
          rw [show (v0.toUInt32 >>> ((Int32.ofInt (8 * ((1 : Nat) : Int))).toUInt32 &&& Int32.toUInt32 31)).toInt32 &&& Int32.ofInt 255 = zc4 v0 1 from rfl]
          have hr2 := zand255 ((v0.toUInt32 >>> ((Int32.ofInt (8 * ((1 : Nat) : Int))).toUInt32 &&& Int32.toUInt32 31)).toInt32)
          refine zV_st0 C (zda zDX6_add 35 rfl rfl) hv zvk2 (show 2 < 126 by decide) (i := n + 2) (zon (by omega)) (by omega) (zelr_ok zve2 (by omega) (by show (0 : Int) ≤ _; exact hr2.1) (by show _ ≤ (255 : Int); exact hr2.2)) (fun ws H locs hv => ?_)
          refine lv_aload_n C.1 C.2.1 (zda zDX6_add 36 rfl rfl) rfl (lv_at hlv 1 rfl) ?_
          refine lv_dup C.1 C.2.1 (zda zDX6_add 37 rfl rfl) rfl ?_
          refine zV_get C (zda zDX6_add 38 rfl rfl) (show vwCl[6]? = some (RX6, TX6, 2) from rfl) zinX6 (by decide) zw38 hv zvk1 (show 1 < 126 by decide) rfl (j := 1) rfl ?_
          refine lv_iconst C.1 C.2.1 (zda zDX6_add 41 rfl rfl) rfl ?_
          refine lv_iadd C.1 C.2.1 (zda zDX6_add 42 rfl rfl) ?_
          rw [zsuc (show n + 2 < 1000 by omega)]
          have hs2 := zon (show n + 2 + 1 < 1000 by omega)
          refine zV_puti C (zda zDX6_add 43 rfl rfl) (show vwCl[6]? = some (RX6, TX6, 2) from rfl) zinX6 tyX6 tyX6_ok nmX6 (j := 1) (by decide) zw38 rfl (by decide +kernel) hv zvk1 (show 1 < 126 by decide) rfl ⟨by show (0 : Int) ≤ _; omega, by show _ ≤ (80 : Int); omega⟩ (fun ws H locs hv => ?_)
          refine lv_iinc C.1 C.2.1 (zda zDX6_add 46 rfl rfl) hlv (k := 0) rfl rfl (by decide) (lv' := [(2, .int ((Int32.ofInt (8 * ((1 : Nat) : Int))) + Int32.ofInt (-8))), (0, .ref (b 1)), (1, .int (v0))]) rfl (fun ls hlv => ?_)
          refine lv_goto C.1 C.2.1 (zda zDX6_add 49 rfl rfl) (tgt := 16) (by decide) ?_
          rw [show Int32.ofInt (8 * ((1 : Nat) : Int)) + Int32.ofInt (-8) = Int32.ofInt (8 * ((0 : Nat) : Int)) by decide] at hlv
          refine lv_iload_n C.1 C.2.1 (zda zDX6_add 16 rfl rfl) rfl (lv_at hlv 0 rfl) ?_
          refine lv_if_lt C.1 C.2.1 (zda zDX6_add 17 rfl rfl) (tgt := 52) (by decide) (fun h17 => ?_) (fun h17 => ?_)
          · exact absurd h17 (by decide)
          · refine lv_aload_n C.1 C.2.1 (zda zDX6_add 20 rfl rfl) rfl (lv_at hlv 1 rfl) ?_
            refine zV_get C (zda zDX6_add 21 rfl rfl) (show vwCl[6]? = some (RX6, TX6, 2) from rfl) zinX6 (by decide) zw37 hv zvk1 (show 1 < 126 by decide) rfl (j := 0) (zV_ref hv zvk1 (show 1 < 126 by decide) rfl) ?_
            refine lv_aload_n C.1 C.2.1 (zda zDX6_add 24 rfl rfl) rfl (lv_at hlv 1 rfl) ?_
            refine zV_get C (zda zDX6_add 25 rfl rfl) (show vwCl[6]? = some (RX6, TX6, 2) from rfl) zinX6 (by decide) zw38 hv zvk1 (show 1 < 126 by decide) rfl (j := 1) rfl ?_
            refine lv_iload_n C.1 C.2.1 (zda zDX6_add 28 rfl rfl) rfl (lv_at hlv 2 rfl) ?_
            refine lv_iload_n C.1 C.2.1 (zda zDX6_add 29 rfl rfl) rfl (lv_at hlv 0 rfl) ?_
            refine lv_iushr C.1 C.2.1 (zda zDX6_add 30 rfl rfl) rfl ?_
            refine lv_sipush C.1 C.2.1 (zda zDX6_add 31 rfl rfl) (v := Int32.ofInt 255) (by decide) ?_
            refine lv_iand C.1 C.2.1 (zda zDX6_add 34 rfl rfl) ?_
            rw [show (v0.toUInt32 >>> ((Int32.ofInt (8 * ((0 : Nat) : Int))).toUInt32 &&& Int32.toUInt32 31)).toInt32 &&& Int32.ofInt 255 = zc4 v0 0 from rfl]
            have hr3 := zand255 ((v0.toUInt32 >>> ((Int32.ofInt (8 * ((0 : Nat) : Int))).toUInt32 &&& Int32.toUInt32 31)).toInt32)
            refine zV_st0 C (zda zDX6_add 35 rfl rfl) hv zvk2 (show 2 < 126 by decide) (i := n + 3) (zon (by omega)) (by omega) (zelr_ok zve2 (by omega) (by show (0 : Int) ≤ _; exact hr3.1) (by show _ ≤ (255 : Int); exact hr3.2)) (fun ws H locs hv => ?_)
            refine lv_aload_n C.1 C.2.1 (zda zDX6_add 36 rfl rfl) rfl (lv_at hlv 1 rfl) ?_
            refine lv_dup C.1 C.2.1 (zda zDX6_add 37 rfl rfl) rfl ?_
            refine zV_get C (zda zDX6_add 38 rfl rfl) (show vwCl[6]? = some (RX6, TX6, 2) from rfl) zinX6 (by decide) zw38 hv zvk1 (show 1 < 126 by decide) rfl (j := 1) rfl ?_
            refine lv_iconst C.1 C.2.1 (zda zDX6_add 41 rfl rfl) rfl ?_
            refine lv_iadd C.1 C.2.1 (zda zDX6_add 42 rfl rfl) ?_
            rw [zsuc (show n + 3 < 1000 by omega)]
            have hs3 := zon (show n + 3 + 1 < 1000 by omega)
            refine zV_puti C (zda zDX6_add 43 rfl rfl) (show vwCl[6]? = some (RX6, TX6, 2) from rfl) zinX6 tyX6 tyX6_ok nmX6 (j := 1) (by decide) zw38 rfl (by decide +kernel) hv zvk1 (show 1 < 126 by decide) rfl ⟨by show (0 : Int) ≤ _; omega, by show _ ≤ (80 : Int); omega⟩ (fun ws H locs hv => ?_)
            refine lv_iinc C.1 C.2.1 (zda zDX6_add 46 rfl rfl) hlv (k := 0) rfl rfl (by decide) (lv' := [(2, .int ((Int32.ofInt (8 * ((0 : Nat) : Int))) + Int32.ofInt (-8))), (0, .ref (b 1)), (1, .int (v0))]) rfl (fun ls hlv => ?_)
            refine lv_goto C.1 C.2.1 (zda zDX6_add 49 rfl rfl) (tgt := 16) (by decide) ?_
            refine lv_iload_n C.1 C.2.1 (zda zDX6_add 16 rfl rfl) rfl (lv_at hlv 0 rfl) ?_
            refine lv_if_lt C.1 C.2.1 (zda zDX6_add 17 rfl rfl) (tgt := 52) (by decide) (fun h17 => ?_) (fun h17 => ?_)
            · refine lv_aload_n C.1 C.2.1 (zda zDX6_add 52 rfl rfl) rfl (lv_at hlv 1 rfl) ?_
              refine zV_get C (zda zDX6_add 53 rfl rfl) (show vwCl[6]? = some (RX6, TX6, 2) from rfl) zinX6 (by decide) zw38 hv zvk1 (show 1 < 126 by decide) rfl (j := 1) rfl ?_
              exact hret 56 ls (some _) _ _ _ _ _ (Or.inl ⟨_, .int, rfl, rfl, rfl, (zda zDX6_add 56 rfl rfl)⟩) hv (Or.inr ⟨by omega, rfl, rfl, fun k j hk => zuv4 hk, rfl⟩)
            · exact absurd (by decide) h17
  · rw [zi80, zol (by omega) (by omega)] at h8
    refine lv_iconst C.1 C.2.1 (zda zDX6_add 11 rfl rfl) rfl ?_
    exact hret 12 ls (some _) _ _ _ _ _ (Or.inl ⟨_, .int, rfl, rfl, rfl, (zda zDX6_add 12 rfl rfl)⟩) hv (Or.inl ⟨by omega, rfl, rfl, rfl⟩)
theorem zc_sgn {n : Nat} {v0 : Int32} (hy : f 1 1 = .int (Int32.ofNat n)) (hn : n ≤ 80) : zCt l0 D tys o z zyI b mX7_sign 6 600 [.ref (b 0), .int v0] f g (fun v f' g' => (80 < n + 4 ∧ v = some (.int (Int32.ofInt (-1))) ∧ f = f' ∧ g = g') ∨ (n + 4 ≤ 80 ∧ v = some (.int (Int32.ofNat (n + 4))) ∧ f' 1 1 = .int (Int32.ofNat (n + 4)) ∧ (∀ k j, k ≠ 1 → f' k j = f k j) ∧ g' = zua (zua (zua (zua g 2 n (zc4 v0 3)) 2 (n + 1) (zc4 v0 2)) 2 (n + 2) (zc4 v0 1)) 2 (n + 3) (zc4 v0 0))) := by
  refine zCt_of (mr := mX7_sign) (by decide) (by decide) (by decide) (show 2 ≤ 2 by decide) rfl rfl ?_
  intro p e s m below meth c0 Q ls ws C hret hv hlv
  replace C : zCx p { frames := 6, cells := 0, slots := 0, locals := 600 } s m ([.ref (b 0), .int v0] : List Value).toArray meth c0 D vwCl tys z (zXX o z) zTs RX7 cX7_sign 2 "sign" := C
  have hlv : lv_has ls 2 [(0, .ref (b 0)), (1, .int v0)] := hlv
  refine lv_aload_n C.1 C.2.1 (zda zDX7_sign 0 rfl rfl) rfl (lv_at hlv 0 rfl) ?_
  refine zV_get C (zda zDX7_sign 1 rfl rfl) (show vwCl[7]? = some (RX7, TX7, 16) from rfl) zinX7 (by decide) zw423 hv zvk0 (show 0 < 126 by decide) rfl (j := 0) (zV_ref hv zvk0 (show 0 < 126 by decide) rfl) ?_
  refine lv_iload_n C.1 C.2.1 (zda zDX7_sign 4 rfl rfl) rfl (lv_at hlv 1 rfl) ?_
  refine zV_callN C (zc_add hy hn) rfl rfl (by decide) (by decide) (show vwCl[6]? = some (RX6, TX6, 2) from rfl) zw479 (fun U H h => zn38 h) zw478 zs10 zw2 (n := 1) (by decide +kernel) (zda zDX7_sign 5 rfl rfl) rfl zvk1 (show 1 < 126 by decide) hv hlv.1 (by show 0 ≤ 8; decide) (Nat.zero_le _) (Nat.zero_le _) (fun v f9 g9 ws H locs hp hv => ?_)
  have hp9 := hp
  rcases hp with ⟨h1, rfl, h3⟩ | ⟨h1, rfl, h3⟩
  · exact hret 8 ls (some _) _ _ _ _ _ (Or.inl ⟨_, .int, rfl, rfl, rfl, (zda zDX7_sign 8 rfl rfl)⟩) hv (hp9)
  · exact hret 8 ls (some _) _ _ _ _ _ (Or.inl ⟨_, .int, rfl, rfl, rfl, (zda zDX7_sign 8 rfl rfl)⟩) hv (hp9)
set_option maxHeartbeats 8000000 in
theorem zr_sgn {n : Nat} {v0 : Int32} (hy : f 94 8 = .int (Int32.ofNat n)) (hn : n ≤ 80) : zCt l0 D tys o z zyI b mX8_sign 4 400 [.ref (b 94), .int v0] f g (fun v f' g' => (80 < n + 4 ∧ v = some (.int (Int32.ofInt (-1))) ∧ f' 94 8 = .int (Int32.ofNat n) ∧ (∀ k j, ¬ (k = 94 ∧ (j = 8 ∨ j = 11)) → f' k j = f k j) ∧ g = g') ∨ (n + 4 ≤ 80 ∧ v = some (.int (Int32.ofNat (n + 4))) ∧ f' 94 8 = .int (Int32.ofNat (n + 4)) ∧ (∀ k j, ¬ (k = 94 ∧ (j = 8 ∨ j = 11)) → f' k j = f k j) ∧ g' = zua (zua (zua (zua g 99 n (vp_nar .byte (zr4 v0 3))) 99 (n + 1) (vp_nar .byte (zr4 v0 2))) 99 (n + 2) (vp_nar .byte (zr4 v0 1))) 99 (n + 3) (vp_nar .byte (zr4 v0 0)))) := by
  refine zCt_of (mr := mX8_sign) (by decide) (by decide) (by decide) (show 2 ≤ 3 by decide) rfl rfl ?_
  intro p e s m below meth c0 Q ls ws C hret hv hlv
  replace C : zCx p { frames := 4, cells := 0, slots := 0, locals := 400 } s m ([.ref (b 94), .int v0] : List Value).toArray meth c0 D vwCl tys z (zXX o z) zTs RX8 cX8_sign 3 "sign" := C
  have hlv : lv_has ls 3 [(0, .ref (b 94)), (1, .int v0)] := hlv
  refine lv_aload_n C.1 C.2.1 (zda zDX8_sign 0 rfl rfl) rfl (lv_at hlv 0 rfl) ?_
  refine lv_iconst C.1 C.2.1 (zda zDX8_sign 1 rfl rfl) rfl ?_
  refine zV_puti C (zda zDX8_sign 2 rfl rfl) (show vwCl[8]? = some (RX8, TX8, 51) from rfl) zinX8 tyX8 tyX8_ok nmX8 (j := 11) (by decide) zw1183 rfl (by decide +kernel) hv zvk94 (show 94 < 126 by decide) rfl ⟨by show (0 : Int) ≤ _; decide, by show _ ≤ (1 : Int); decide⟩ (fun ws H locs hv => ?_)
  refine lv_aload_n C.1 C.2.1 (zda zDX8_sign 5 rfl rfl) rfl (lv_at hlv 0 rfl) ?_
  refine zV_get C (zda zDX8_sign 6 rfl rfl) (show vwCl[8]? = some (RX8, TX8, 51) from rfl) zinX8 (by decide) zw1180 hv zvk94 (show 94 < 126 by decide) rfl (j := 8) hy ?_
  refine lv_iconst C.1 C.2.1 (zda zDX8_sign 9 rfl rfl) rfl ?_
  refine lv_iadd C.1 C.2.1 (zda zDX8_sign 10 rfl rfl) ?_
  rw [zofa (k := 4) (show n < 1000 by omega) (by decide) (by decide)]
  refine lv_bipush C.1 C.2.1 (zda zDX8_sign 11 rfl rfl) rfl ?_
  refine lv_icmp_le C.1 C.2.1 (zda zDX8_sign 13 rfl rfl) (tgt := 18) (by decide) (fun h13 => ?_) (fun h13 => ?_)
  · rw [zi80, zol (by omega) (by omega)] at h13
    refine lv_iconst C.1 C.2.1 (zda zDX8_sign 18 rfl rfl) rfl ?_
    rw [show Int32.ofInt 3 = Int32.ofInt ((3 : Nat) : Int) by decide]
    refine lv_istore_n C.1 C.2.1 (zda zDX8_sign 19 rfl rfl) rfl hlv (lv' := [(2, .int (Int32.ofInt ((3 : Nat) : Int))), (0, .ref (b 94)), (1, .int (v0))]) (by decide) rfl (fun ls hlv => ?_)
    refine lv_iload_n C.1 C.2.1 (zda zDX8_sign 20 rfl rfl) rfl (lv_at hlv 0 rfl) ?_
    refine lv_if_lt C.1 C.2.1 (zda zDX8_sign 21 rfl rfl) (tgt := 53) (by decide) (fun h21 => ?_) (fun h21 => ?_)
    · exact absurd h21 (by decide)
    · refine lv_aload_n C.1 C.2.1 (zda zDX8_sign 24 rfl rfl) rfl (lv_at hlv 1 rfl) ?_
      refine zV_get C (zda zDX8_sign 25 rfl rfl) (show vwCl[8]? = some (RX8, TX8, 51) from rfl) zinX8 (by decide) zw1179 hv zvk94 (show 94 < 126 by decide) rfl (j := 7) (zV_ref hv zvk94 (show 94 < 126 by decide) rfl) ?_
      refine lv_aload_n C.1 C.2.1 (zda zDX8_sign 28 rfl rfl) rfl (lv_at hlv 1 rfl) ?_
      refine lv_dup C.1 C.2.1 (zda zDX8_sign 29 rfl rfl) rfl ?_
      refine zV_get C (zda zDX8_sign 30 rfl rfl) (show vwCl[8]? = some (RX8, TX8, 51) from rfl) zinX8 (by decide) zw1180 hv zvk94 (show 94 < 126 by decide) rfl (j := 8) hy ?_
      refine lv_dup_x1 C.1 C.2.1 (zda zDX8_sign 33 rfl rfl) rfl rfl ?_
      refine lv_iconst C.1 C.2.1 (zda zDX8_sign 34 rfl rfl) rfl ?_
      refine lv_iadd C.1 C.2.1 (zda zDX8_sign 35 rfl rfl) ?_
      rw [zsuc (show n < 1000 by omega)]
      have hs0 := zon (show n + 1 < 1000 by omega)
      refine zV_puti C (zda zDX8_sign 36 rfl rfl) (show vwCl[8]? = some (RX8, TX8, 51) from rfl) zinX8 tyX8 tyX8_ok nmX8 (j := 8) (by decide) zw1180 rfl (by decide +kernel) hv zvk94 (show 94 < 126 by decide) rfl ⟨by show (0 : Int) ≤ _; omega, by show _ ≤ (80 : Int); omega⟩ (fun ws H locs hv => ?_)
      refine lv_iload_n C.1 C.2.1 (zda zDX8_sign 39 rfl rfl) rfl (lv_at hlv 2 rfl) ?_
      refine lv_bipush C.1 C.2.1 (zda zDX8_sign 40 rfl rfl) rfl ?_
      refine lv_iload_n C.1 C.2.1 (zda zDX8_sign 42 rfl rfl) rfl (lv_at hlv 0 rfl) ?_
      refine lv_imul C.1 C.2.1 (zda zDX8_sign 43 rfl rfl) ?_
      refine lv_ishr C.1 C.2.1 (zda zDX8_sign 44 rfl rfl) ?_
      refine lv_i2b C.1 C.2.1 (zda zDX8_sign 45 rfl rfl) rfl ?_
      rw [show (v0 >>> ((Int8.ofInt 8).toInt32 * Int32.ofInt ((3 : Nat) : Int) &&& 31)).toInt8.toInt32 = zr4 v0 3 from rfl]
      have hr0 := zr4r v0 3
      refine zV_st3 C (zda zDX8_sign 46 rfl rfl) hv zvk99 (show 99 < 126 by decide) (i := n) (zon (by omega)) (by omega) (zelr_ok zve99 (by omega) (by show (-128 : Int) ≤ _; exact hr0.1) (by show _ ≤ (127 : Int); exact hr0.2)) (fun ws H locs hv => ?_)
      refine lv_iinc C.1 C.2.1 (zda zDX8_sign 47 rfl rfl) hlv (k := 0) rfl rfl (by decide) (lv' := [(2, .int ((Int32.ofInt ((3 : Nat) : Int)) + Int32.ofInt (-1))), (0, .ref (b 94)), (1, .int (v0))]) rfl (fun ls hlv => ?_)
      refine lv_goto C.1 C.2.1 (zda zDX8_sign 50 rfl rfl) (tgt := 20) (by decide) ?_
      rw [show Int32.ofInt ((3 : Nat) : Int) + Int32.ofInt (-1) = Int32.ofInt ((2 : Nat) : Int) by decide] at hlv
      refine lv_iload_n C.1 C.2.1 (zda zDX8_sign 20 rfl rfl) rfl (lv_at hlv 0 rfl) ?_
      refine lv_if_lt C.1 C.2.1 (zda zDX8_sign 21 rfl rfl) (tgt := 53) (by decide) (fun h21 => ?_) (fun h21 => ?_)
      · exact absurd h21 (by decide)
      · refine lv_aload_n C.1 C.2.1 (zda zDX8_sign 24 rfl rfl) rfl (lv_at hlv 1 rfl) ?_
        refine zV_get C (zda zDX8_sign 25 rfl rfl) (show vwCl[8]? = some (RX8, TX8, 51) from rfl) zinX8 (by decide) zw1179 hv zvk94 (show 94 < 126 by decide) rfl (j := 7) (zV_ref hv zvk94 (show 94 < 126 by decide) rfl) ?_
        refine lv_aload_n C.1 C.2.1 (zda zDX8_sign 28 rfl rfl) rfl (lv_at hlv 1 rfl) ?_
        refine lv_dup C.1 C.2.1 (zda zDX8_sign 29 rfl rfl) rfl ?_
        refine zV_get C (zda zDX8_sign 30 rfl rfl) (show vwCl[8]? = some (RX8, TX8, 51) from rfl) zinX8 (by decide) zw1180 hv zvk94 (show 94 < 126 by decide) rfl (j := 8) rfl ?_
        refine lv_dup_x1 C.1 C.2.1 (zda zDX8_sign 33 rfl rfl) rfl rfl ?_
        refine lv_iconst C.1 C.2.1 (zda zDX8_sign 34 rfl rfl) rfl ?_
        refine lv_iadd C.1 C.2.1 (zda zDX8_sign 35 rfl rfl) ?_
        rw [zsuc (show n + 1 < 1000 by omega)]
        have hs1 := zon (show n + 1 + 1 < 1000 by omega)
        refine zV_puti C (zda zDX8_sign 36 rfl rfl) (show vwCl[8]? = some (RX8, TX8, 51) from rfl) zinX8 tyX8 tyX8_ok nmX8 (j := 8) (by decide) zw1180 rfl (by decide +kernel) hv zvk94 (show 94 < 126 by decide) rfl ⟨by show (0 : Int) ≤ _; omega, by show _ ≤ (80 : Int); omega⟩ (fun ws H locs hv => ?_)
        refine lv_iload_n C.1 C.2.1 (zda zDX8_sign 39 rfl rfl) rfl (lv_at hlv 2 rfl) ?_
        refine lv_bipush C.1 C.2.1 (zda zDX8_sign 40 rfl rfl) rfl ?_
        refine lv_iload_n C.1 C.2.1 (zda zDX8_sign 42 rfl rfl) rfl (lv_at hlv 0 rfl) ?_
        refine lv_imul C.1 C.2.1 (zda zDX8_sign 43 rfl rfl) ?_
        refine lv_ishr C.1 C.2.1 (zda zDX8_sign 44 rfl rfl) ?_
        refine lv_i2b C.1 C.2.1 (zda zDX8_sign 45 rfl rfl) rfl ?_
        rw [show (v0 >>> ((Int8.ofInt 8).toInt32 * Int32.ofInt ((2 : Nat) : Int) &&& 31)).toInt8.toInt32 = zr4 v0 2 from rfl]
        have hr1 := zr4r v0 2
        refine zV_st3 C (zda zDX8_sign 46 rfl rfl) hv zvk99 (show 99 < 126 by decide) (i := n + 1) (zon (by omega)) (by omega) (zelr_ok zve99 (by omega) (by show (-128 : Int) ≤ _; exact hr1.1) (by show _ ≤ (127 : Int); exact hr1.2)) (fun ws H locs hv => ?_)
        refine lv_iinc C.1 C.2.1 (zda zDX8_sign 47 rfl rfl) hlv (k := 0) rfl rfl (by decide) (lv' := [(2, .int ((Int32.ofInt ((2 : Nat) : Int)) + Int32.ofInt (-1))), (0, .ref (b 94)), (1, .int (v0))]) rfl (fun ls hlv => ?_)
        refine lv_goto C.1 C.2.1 (zda zDX8_sign 50 rfl rfl) (tgt := 20) (by decide) ?_
        rw [show Int32.ofInt ((2 : Nat) : Int) + Int32.ofInt (-1) = Int32.ofInt ((1 : Nat) : Int) by decide] at hlv
        refine lv_iload_n C.1 C.2.1 (zda zDX8_sign 20 rfl rfl) rfl (lv_at hlv 0 rfl) ?_
        refine lv_if_lt C.1 C.2.1 (zda zDX8_sign 21 rfl rfl) (tgt := 53) (by decide) (fun h21 => ?_) (fun h21 => ?_)
        · exact absurd h21 (by decide)
        · refine lv_aload_n C.1 C.2.1 (zda zDX8_sign 24 rfl rfl) rfl (lv_at hlv 1 rfl) ?_
          refine zV_get C (zda zDX8_sign 25 rfl rfl) (show vwCl[8]? = some (RX8, TX8, 51) from rfl) zinX8 (by decide) zw1179 hv zvk94 (show 94 < 126 by decide) rfl (j := 7) (zV_ref hv zvk94 (show 94 < 126 by decide) rfl) ?_
          refine lv_aload_n C.1 C.2.1 (zda zDX8_sign 28 rfl rfl) rfl (lv_at hlv 1 rfl) ?_
          refine lv_dup C.1 C.2.1 (zda zDX8_sign 29 rfl rfl) rfl ?_
          refine zV_get C (zda zDX8_sign 30 rfl rfl) (show vwCl[8]? = some (RX8, TX8, 51) from rfl) zinX8 (by decide) zw1180 hv zvk94 (show 94 < 126 by decide) rfl (j := 8) rfl ?_
          refine lv_dup_x1 C.1 C.2.1 (zda zDX8_sign 33 rfl rfl) rfl rfl ?_
          refine lv_iconst C.1 C.2.1 (zda zDX8_sign 34 rfl rfl) rfl ?_
          refine lv_iadd C.1 C.2.1 (zda zDX8_sign 35 rfl rfl) ?_
          rw [zsuc (show n + 2 < 1000 by omega)]
          have hs2 := zon (show n + 2 + 1 < 1000 by omega)
          refine zV_puti C (zda zDX8_sign 36 rfl rfl) (show vwCl[8]? = some (RX8, TX8, 51) from rfl) zinX8 tyX8 tyX8_ok nmX8 (j := 8) (by decide) zw1180 rfl (by decide +kernel) hv zvk94 (show 94 < 126 by decide) rfl ⟨by show (0 : Int) ≤ _; omega, by show _ ≤ (80 : Int); omega⟩ (fun ws H locs hv => ?_)
          refine lv_iload_n C.1 C.2.1 (zda zDX8_sign 39 rfl rfl) rfl (lv_at hlv 2 rfl) ?_
          refine lv_bipush C.1 C.2.1 (zda zDX8_sign 40 rfl rfl) rfl ?_
          refine lv_iload_n C.1 C.2.1 (zda zDX8_sign 42 rfl rfl) rfl (lv_at hlv 0 rfl) ?_
          refine lv_imul C.1 C.2.1 (zda zDX8_sign 43 rfl rfl) ?_
          refine lv_ishr C.1 C.2.1 (zda zDX8_sign 44 rfl rfl) ?_
          refine lv_i2b C.1 C.2.1 (zda zDX8_sign 45 rfl rfl) rfl ?_
          rw [show (v0 >>> ((Int8.ofInt 8).toInt32 * Int32.ofInt ((1 : Nat) : Int) &&& 31)).toInt8.toInt32 = zr4 v0 1 from rfl]
          have hr2 := zr4r v0 1
          refine zV_st3 C (zda zDX8_sign 46 rfl rfl) hv zvk99 (show 99 < 126 by decide) (i := n + 2) (zon (by omega)) (by omega) (zelr_ok zve99 (by omega) (by show (-128 : Int) ≤ _; exact hr2.1) (by show _ ≤ (127 : Int); exact hr2.2)) (fun ws H locs hv => ?_)
          refine lv_iinc C.1 C.2.1 (zda zDX8_sign 47 rfl rfl) hlv (k := 0) rfl rfl (by decide) (lv' := [(2, .int ((Int32.ofInt ((1 : Nat) : Int)) + Int32.ofInt (-1))), (0, .ref (b 94)), (1, .int (v0))]) rfl (fun ls hlv => ?_)
          refine lv_goto C.1 C.2.1 (zda zDX8_sign 50 rfl rfl) (tgt := 20) (by decide) ?_
          rw [show Int32.ofInt ((1 : Nat) : Int) + Int32.ofInt (-1) = Int32.ofInt ((0 : Nat) : Int) by decide] at hlv
          refine lv_iload_n C.1 C.2.1 (zda zDX8_sign 20 rfl rfl) rfl (lv_at hlv 0 rfl) ?_
          refine lv_if_lt C.1 C.2.1 (zda zDX8_sign 21 rfl rfl) (tgt := 53) (by decide) (fun h21 => ?_) (fun h21 => ?_)
          · exact absurd h21 (by decide)
          · refine lv_aload_n C.1 C.2.1 (zda zDX8_sign 24 rfl rfl) rfl (lv_at hlv 1 rfl) ?_
            refine zV_get C (zda zDX8_sign 25 rfl rfl) (show vwCl[8]? = some (RX8, TX8, 51) from rfl) zinX8 (by decide) zw1179 hv zvk94 (show 94 < 126 by decide) rfl (j := 7) (zV_ref hv zvk94 (show 94 < 126 by decide) rfl) ?_
            refine lv_aload_n C.1 C.2.1 (zda zDX8_sign 28 rfl rfl) rfl (lv_at hlv 1 rfl) ?_
            refine lv_dup C.1 C.2.1 (zda zDX8_sign 29 rfl rfl) rfl ?_
            refine zV_get C (zda zDX8_sign 30 rfl rfl) (show vwCl[8]? = some (RX8, TX8, 51) from rfl) zinX8 (by decide) zw1180 hv zvk94 (show 94 < 126 by decide) rfl (j := 8) rfl ?_
            refine lv_dup_x1 C.1 C.2.1 (zda zDX8_sign 33 rfl rfl) rfl rfl ?_
            refine lv_iconst C.1 C.2.1 (zda zDX8_sign 34 rfl rfl) rfl ?_
            refine lv_iadd C.1 C.2.1 (zda zDX8_sign 35 rfl rfl) ?_
            rw [zsuc (show n + 3 < 1000 by omega)]
            have hs3 := zon (show n + 3 + 1 < 1000 by omega)
            refine zV_puti C (zda zDX8_sign 36 rfl rfl) (show vwCl[8]? = some (RX8, TX8, 51) from rfl) zinX8 tyX8 tyX8_ok nmX8 (j := 8) (by decide) zw1180 rfl (by decide +kernel) hv zvk94 (show 94 < 126 by decide) rfl ⟨by show (0 : Int) ≤ _; omega, by show _ ≤ (80 : Int); omega⟩ (fun ws H locs hv => ?_)
            refine lv_iload_n C.1 C.2.1 (zda zDX8_sign 39 rfl rfl) rfl (lv_at hlv 2 rfl) ?_
            refine lv_bipush C.1 C.2.1 (zda zDX8_sign 40 rfl rfl) rfl ?_
            refine lv_iload_n C.1 C.2.1 (zda zDX8_sign 42 rfl rfl) rfl (lv_at hlv 0 rfl) ?_
            refine lv_imul C.1 C.2.1 (zda zDX8_sign 43 rfl rfl) ?_
            refine lv_ishr C.1 C.2.1 (zda zDX8_sign 44 rfl rfl) ?_
            refine lv_i2b C.1 C.2.1 (zda zDX8_sign 45 rfl rfl) rfl ?_
            rw [show (v0 >>> ((Int8.ofInt 8).toInt32 * Int32.ofInt ((0 : Nat) : Int) &&& 31)).toInt8.toInt32 = zr4 v0 0 from rfl]
            have hr3 := zr4r v0 0
            refine zV_st3 C (zda zDX8_sign 46 rfl rfl) hv zvk99 (show 99 < 126 by decide) (i := n + 3) (zon (by omega)) (by omega) (zelr_ok zve99 (by omega) (by show (-128 : Int) ≤ _; exact hr3.1) (by show _ ≤ (127 : Int); exact hr3.2)) (fun ws H locs hv => ?_)
            refine lv_iinc C.1 C.2.1 (zda zDX8_sign 47 rfl rfl) hlv (k := 0) rfl rfl (by decide) (lv' := [(2, .int ((Int32.ofInt ((0 : Nat) : Int)) + Int32.ofInt (-1))), (0, .ref (b 94)), (1, .int (v0))]) rfl (fun ls hlv => ?_)
            refine lv_goto C.1 C.2.1 (zda zDX8_sign 50 rfl rfl) (tgt := 20) (by decide) ?_
            refine lv_iload_n C.1 C.2.1 (zda zDX8_sign 20 rfl rfl) rfl (lv_at hlv 0 rfl) ?_
            refine lv_if_lt C.1 C.2.1 (zda zDX8_sign 21 rfl rfl) (tgt := 53) (by decide) (fun h21 => ?_) (fun h21 => ?_)
            · refine lv_aload_n C.1 C.2.1 (zda zDX8_sign 53 rfl rfl) rfl (lv_at hlv 1 rfl) ?_
              refine zV_get C (zda zDX8_sign 54 rfl rfl) (show vwCl[8]? = some (RX8, TX8, 51) from rfl) zinX8 (by decide) zw1180 hv zvk94 (show 94 < 126 by decide) rfl (j := 8) rfl ?_
              exact hret 57 ls (some _) _ _ _ _ _ (Or.inl ⟨_, .int, rfl, rfl, rfl, (zda zDX8_sign 57 rfl rfl)⟩) hv (Or.inr ⟨by omega, rfl, rfl, fun k j hk => zuv94' hk, rfl⟩)
            · exact absurd (by decide) h21
  · rw [zi80, zol (by omega) (by omega)] at h13
    refine lv_iconst C.1 C.2.1 (zda zDX8_sign 16 rfl rfl) rfl ?_
    exact hret 17 ls (some _) _ _ _ _ _ (Or.inl ⟨_, .int, rfl, rfl, rfl, (zda zDX8_sign 17 rfl rfl)⟩) hv (Or.inl ⟨by omega, rfl, hy, fun k j hk => zuv_n (by omega), rfl⟩)
theorem zc_cut {n : Nat} {x : Int32} (hy : f 1 1 = .int (Int32.ofNat n)) (hn : n ≤ 80) : zCt l0 D tys o z zyI b mX6_cut 2 300 [.ref (b 1), .int x] f g (fun v f' g' => ((¬ (0 ≤ x.toInt ∧ x.toInt ≤ (n : Int)) ∧ v = some (.int (Int32.ofInt 0)) ∧ f' 1 1 = .int (Int32.ofNat n)) ∨ ((0 ≤ x.toInt ∧ x.toInt ≤ (n : Int)) ∧ v = some (.int (Int32.ofInt 1)) ∧ f' 1 1 = .int x)) ∧ (∀ k j, k ≠ 1 → f' k j = f k j) ∧ g = g') := by
  refine zCt_of (mr := mX6_cut) (by decide) (by decide) (by decide) (show 2 ≤ 2 by decide) rfl rfl ?_
  intro p e s m below meth c0 Q ls ws C hret hv hlv
  replace C : zCx p { frames := 2, cells := 0, slots := 0, locals := 300 } s m ([.ref (b 1), .int x] : List Value).toArray meth c0 D vwCl tys z (zXX o z) zTs RX6 cX6_cut 2 "cut" := C
  have hlv : lv_has ls 2 [(0, .ref (b 1)), (1, .int x)] := hlv
  have hn9 := zon (show n < 1000 by omega)
  refine lv_iload_n C.1 C.2.1 (zda zDX6_cut 0 rfl rfl) rfl (lv_at hlv 1 rfl) ?_
  refine lv_if_lt C.1 C.2.1 (zda zDX6_cut 1 rfl rfl) (tgt := 12) (by decide) (fun h1 => ?_) (fun h1 => ?_)
  · rw [Int32.lt_iff_toInt_lt, Int32.toInt_zero] at h1
    refine lv_iconst C.1 C.2.1 (zda zDX6_cut 12 rfl rfl) rfl ?_
    exact hret 13 ls (some _) _ _ _ _ _ (Or.inl ⟨_, .boolean, rfl, rfl, rfl, (zda zDX6_cut 13 rfl rfl)⟩) hv (⟨Or.inl ⟨by omega, rfl, hy⟩, fun k j hk => rfl, rfl⟩)
  · rw [Int32.lt_iff_toInt_lt, Int32.toInt_zero] at h1
    refine lv_iload_n C.1 C.2.1 (zda zDX6_cut 4 rfl rfl) rfl (lv_at hlv 1 rfl) ?_
    refine lv_aload_n C.1 C.2.1 (zda zDX6_cut 5 rfl rfl) rfl (lv_at hlv 0 rfl) ?_
    refine zV_get C (zda zDX6_cut 6 rfl rfl) (show vwCl[6]? = some (RX6, TX6, 2) from rfl) zinX6 (by decide) zw38 hv zvk1 (show 1 < 126 by decide) rfl (j := 1) hy ?_
    refine lv_icmp_le C.1 C.2.1 (zda zDX6_cut 9 rfl rfl) (tgt := 14) (by decide) (fun h9 => ?_) (fun h9 => ?_)
    · rw [Int32.le_iff_toInt_le, hn9] at h9
      refine lv_aload_n C.1 C.2.1 (zda zDX6_cut 14 rfl rfl) rfl (lv_at hlv 0 rfl) ?_
      refine lv_iload_n C.1 C.2.1 (zda zDX6_cut 15 rfl rfl) rfl (lv_at hlv 1 rfl) ?_
      refine zV_puti C (zda zDX6_cut 16 rfl rfl) (show vwCl[6]? = some (RX6, TX6, 2) from rfl) zinX6 tyX6 tyX6_ok nmX6 (j := 1) (by decide) zw38 rfl (by decide +kernel) hv zvk1 (show 1 < 126 by decide) rfl ⟨by show (0 : Int) ≤ _; omega, by show _ ≤ (80 : Int); omega⟩ (fun ws H locs hv => ?_)
      refine lv_iconst C.1 C.2.1 (zda zDX6_cut 19 rfl rfl) rfl ?_
      exact hret 20 ls (some _) _ _ _ _ _ (Or.inl ⟨_, .boolean, rfl, rfl, rfl, (zda zDX6_cut 20 rfl rfl)⟩) hv (⟨Or.inr ⟨by omega, rfl, rfl⟩, fun k j hk => zuv1 hk, rfl⟩)
    · rw [Int32.le_iff_toInt_le, hn9] at h9
      refine lv_iconst C.1 C.2.1 (zda zDX6_cut 12 rfl rfl) rfl ?_
      exact hret 13 ls (some _) _ _ _ _ _ (Or.inl ⟨_, .boolean, rfl, rfl, rfl, (zda zDX6_cut 13 rfl rfl)⟩) hv (⟨Or.inl ⟨by omega, rfl, hy⟩, fun k j hk => rfl, rfl⟩)
theorem zc_end {n : Nat} {x : Int32} (hy : f 1 1 = .int (Int32.ofNat n)) (hn : n ≤ 80) : zCt l0 D tys o z zyI b mX7_end 6 600 [.ref (b 0), .int x] f g (fun v f' g' => ((¬ (0 ≤ x.toInt ∧ x.toInt ≤ (n : Int)) ∧ v = some (.int (Int32.ofInt 0)) ∧ f' 1 1 = .int (Int32.ofNat n)) ∨ ((0 ≤ x.toInt ∧ x.toInt ≤ (n : Int)) ∧ v = some (.int (Int32.ofInt 1)) ∧ f' 1 1 = .int x)) ∧ (∀ k j, k ≠ 1 → f' k j = f k j) ∧ g = g') := by
  refine zCt_of (mr := mX7_end) (by decide) (by decide) (by decide) (show 2 ≤ 2 by decide) rfl rfl ?_
  intro p e s m below meth c0 Q ls ws C hret hv hlv
  replace C : zCx p { frames := 6, cells := 0, slots := 0, locals := 600 } s m ([.ref (b 0), .int x] : List Value).toArray meth c0 D vwCl tys z (zXX o z) zTs RX7 cX7_end 2 "end" := C
  have hlv : lv_has ls 2 [(0, .ref (b 0)), (1, .int x)] := hlv
  refine lv_aload_n C.1 C.2.1 (zda zDX7_end 0 rfl rfl) rfl (lv_at hlv 0 rfl) ?_
  refine zV_get C (zda zDX7_end 1 rfl rfl) (show vwCl[7]? = some (RX7, TX7, 16) from rfl) zinX7 (by decide) zw423 hv zvk0 (show 0 < 126 by decide) rfl (j := 0) (zV_ref hv zvk0 (show 0 < 126 by decide) rfl) ?_
  refine lv_iload_n C.1 C.2.1 (zda zDX7_end 4 rfl rfl) rfl (lv_at hlv 1 rfl) ?_
  refine zV_callN C (zc_cut hy hn) rfl rfl (by decide) (by decide) (show vwCl[6]? = some (RX6, TX6, 2) from rfl) zw487 (fun U H h => zn39 h) zw486 zs11 zw2 (n := 1) (by decide +kernel) (zda zDX7_end 5 rfl rfl) rfl zvk1 (show 1 < 126 by decide) hv hlv.1 (by show 0 ≤ 8; decide) (Nat.zero_le _) (Nat.zero_le _) (fun v f9 g9 ws H locs hp hv => ?_)
  have hp9 := hp
  obtain ⟨⟨h1, rfl, h3⟩ | ⟨h1, rfl, h3⟩, h4⟩ := hp
  · exact hret 8 ls (some _) _ _ _ _ _ (Or.inl ⟨_, .boolean, rfl, rfl, rfl, (zda zDX7_end 8 rfl rfl)⟩) hv (hp9)
  · exact hret 8 ls (some _) _ _ _ _ _ (Or.inl ⟨_, .boolean, rfl, rfl, rfl, (zda zDX7_end 8 rfl rfl)⟩) hv (hp9)
theorem zr_end {n : Nat} {x : Int32} (hy : f 94 8 = .int (Int32.ofNat n)) (hn : n ≤ 80) : zCt l0 D tys o z zyI b mX8_end 6 600 [.ref (b 94), .int x] f g (fun v f' g' => ((¬ (0 ≤ x.toInt ∧ x.toInt ≤ (n : Int)) ∧ v = some (.int (Int32.ofInt 0)) ∧ f' 94 8 = .int (Int32.ofNat n)) ∨ ((0 ≤ x.toInt ∧ x.toInt ≤ (n : Int)) ∧ v = some (.int (Int32.ofInt 1)) ∧ f' 94 8 = .int x)) ∧ (∀ k j, ¬ (k = 94 ∧ (j = 8 ∨ j = 11)) → f' k j = f k j) ∧ g = g') := by
  refine zCt_of (mr := mX8_end) (by decide) (by decide) (by decide) (show 2 ≤ 2 by decide) rfl rfl ?_
  intro p e s m below meth c0 Q ls ws C hret hv hlv
  replace C : zCx p { frames := 6, cells := 0, slots := 0, locals := 600 } s m ([.ref (b 94), .int x] : List Value).toArray meth c0 D vwCl tys z (zXX o z) zTs RX8 cX8_end 2 "end" := C
  have hlv : lv_has ls 2 [(0, .ref (b 94)), (1, .int x)] := hlv
  have hn9 := zon (show n < 1000 by omega)
  refine lv_aload_n C.1 C.2.1 (zda zDX8_end 0 rfl rfl) rfl (lv_at hlv 0 rfl) ?_
  refine lv_iconst C.1 C.2.1 (zda zDX8_end 1 rfl rfl) rfl ?_
  refine zV_puti C (zda zDX8_end 2 rfl rfl) (show vwCl[8]? = some (RX8, TX8, 51) from rfl) zinX8 tyX8 tyX8_ok nmX8 (j := 11) (by decide) zw1183 rfl (by decide +kernel) hv zvk94 (show 94 < 126 by decide) rfl ⟨by show (0 : Int) ≤ _; decide, by show _ ≤ (1 : Int); decide⟩ (fun ws H locs hv => ?_)
  refine lv_iload_n C.1 C.2.1 (zda zDX8_end 5 rfl rfl) rfl (lv_at hlv 1 rfl) ?_
  refine lv_iconst C.1 C.2.1 (zda zDX8_end 6 rfl rfl) rfl ?_
  refine lv_aload_n C.1 C.2.1 (zda zDX8_end 7 rfl rfl) rfl (lv_at hlv 0 rfl) ?_
  refine zV_get C (zda zDX8_end 8 rfl rfl) (show vwCl[8]? = some (RX8, TX8, 51) from rfl) zinX8 (by decide) zw1180 hv zvk94 (show 94 < 126 by decide) rfl (j := 8) hy ?_
  by_cases hc : ¬ x < Int32.ofInt 0 ∧ ¬ Int32.ofNat n < x
  · refine zV_callS C (zr_inT hc.1 hc.2) rfl rfl (by decide) (by decide) zw1336 zw1334 zw1335 zw16 (n := 3) (by decide +kernel) (zda zDX8_end 11 rfl rfl) rfl hv hlv.1 (by show 0 ≤ 8; decide) (Nat.zero_le _) (Nat.zero_le _) (fun v f9 g9 ws H locs hp hv => ?_)
    obtain ⟨rfl, rfl, rfl⟩ := hp
    refine lv_if_ne C.1 C.2.1 (zda zDX8_end 14 rfl rfl) (tgt := 19) (by decide) (fun h14 => ?_) (fun h14 => ?_)
    · rw [Int32.lt_iff_toInt_lt, Int32.lt_iff_toInt_lt, hn9, show (Int32.ofInt 0).toInt = 0 by decide] at hc
      refine lv_aload_n C.1 C.2.1 (zda zDX8_end 19 rfl rfl) rfl (lv_at hlv 0 rfl) ?_
      refine lv_iload_n C.1 C.2.1 (zda zDX8_end 20 rfl rfl) rfl (lv_at hlv 1 rfl) ?_
      refine zV_puti C (zda zDX8_end 21 rfl rfl) (show vwCl[8]? = some (RX8, TX8, 51) from rfl) zinX8 tyX8 tyX8_ok nmX8 (j := 8) (by decide) zw1180 rfl (by decide +kernel) hv zvk94 (show 94 < 126 by decide) rfl ⟨by show (0 : Int) ≤ _; omega, by show _ ≤ (80 : Int); omega⟩ (fun ws H locs hv => ?_)
      refine lv_iconst C.1 C.2.1 (zda zDX8_end 24 rfl rfl) rfl ?_
      exact hret 25 ls (some _) _ _ _ _ _ (Or.inl ⟨_, .boolean, rfl, rfl, rfl, (zda zDX8_end 25 rfl rfl)⟩) hv (⟨Or.inr ⟨by omega, rfl, rfl⟩, fun k j hk => zuv942 hk, rfl⟩)
    · exact absurd h14 (by decide)
  · refine zV_callS C (zr_inF hc) rfl rfl (by decide) (by decide) zw1336 zw1334 zw1335 zw16 (n := 3) (by decide +kernel) (zda zDX8_end 11 rfl rfl) rfl hv hlv.1 (by show 0 ≤ 8; decide) (Nat.zero_le _) (Nat.zero_le _) (fun v f9 g9 ws H locs hp hv => ?_)
    obtain ⟨rfl, rfl, rfl⟩ := hp
    refine lv_if_ne C.1 C.2.1 (zda zDX8_end 14 rfl rfl) (tgt := 19) (by decide) (fun h14 => ?_) (fun h14 => ?_)
    · exact absurd rfl h14
    · rw [Int32.lt_iff_toInt_lt, Int32.lt_iff_toInt_lt, hn9, show (Int32.ofInt 0).toInt = 0 by decide] at hc
      refine lv_iconst C.1 C.2.1 (zda zDX8_end 17 rfl rfl) rfl ?_
      exact hret 18 ls (some _) _ _ _ _ _ (Or.inl ⟨_, .boolean, rfl, rfl, rfl, (zda zDX8_end 18 rfl rfl)⟩) hv (⟨Or.inl ⟨by omega, rfl, hy⟩, fun k j hk => zuv_n (by omega), rfl⟩)
end ZWHO2
