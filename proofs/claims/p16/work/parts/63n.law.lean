/-! ROUNDS OF THE LAW BY EXACT FUNCTIONS -/
noncomputable def zvf0 : List zAV := [.inr (.inr (.inl 1)), .inr (.inr (.inl 3)), .inr (.inr (.inl 15)), .inr (.inr (.inl 18)), .inr (.inr (.inl 21)), .inr (.inr (.inl 24)), .inr (.inr (.inl 62)), .inr (.inr (.inl 63)), .inr (.inr (.inl 64)), .inr (.inr (.inl 78)), .inr (.inr (.inl 80)), .inr (.inr (.inl 81)), .inr (.inr (.inl 82)), .inl ((.ofNat 0, .ofNat 12), none), .inr (.inr (.inl 83)), .inl ((.negSucc 2147483647, .ofNat 2147483647), none)]
set_option maxRecDepth 100000 in
theorem zvk0 : zrget zyI.2.1 0 = some (.inr (7, zvf0)) := rfl
noncomputable def zvf94 : List zAV := [.inr (.inr (.inl 95)), .inl ((.ofNat 1, .ofNat 8), none), .inl ((.ofNat 0, .ofNat 9), none), .inl ((.ofNat 0, .ofNat 8), none), .inr (.inr (.inl 96)), .inr (.inr (.inl 97)), .inr (.inr (.inl 98)), .inr (.inr (.inl 99)), .inl ((.ofNat 0, .ofNat 80), none), .inr (.inr (.inl 100)), .inl ((.ofNat 0, .ofNat 8), none), .inl ((.ofNat 0, .ofNat 1), none), .inr (.inr (.inr (.inr 100))), .inl ((.ofNat 0, .ofNat 80), none), .inl ((.ofNat 0, .ofNat 76), none), .inl ((.ofNat 0, .ofNat 76), none), .inl ((.negSucc 0, .ofNat 80), none), .inr (.inr (.inl 101)), .inr (.inr (.inl 102)), .inr (.inr (.inl 103)), .inl ((.ofNat 0, .ofNat 40), none), .inl ((.ofNat 0, .ofNat 0), none), .inr (.inr (.inl 104)), .inr (.inr (.inl 105)), .inl ((.ofNat 0, .ofNat 12), none), .inr (.inr (.inl 106)), .inr (.inr (.inl 107)), .inl ((.ofNat 0, .ofNat 255), none), .inl ((.ofNat 0, .ofNat 255), none), .inr (.inr (.inl 108)), .inr (.inr (.inl 109)), .inr (.inr (.inl 110)), .inr (.inr (.inl 111)), .inr (.inr (.inl 112)), .inr (.inr (.inl 113)), .inr (.inr (.inl 114)), .inr (.inr (.inl 115)), .inr (.inr (.inl 116)), .inr (.inr (.inl 117)), .inl ((.ofNat 1000000000, .ofNat 1000000000), none), .inr (.inr (.inl 118)), .inr (.inr (.inl 119)), .inr (.inr (.inl 120)), .inr (.inr (.inl 121)), .inl ((.negSucc 2147483647, .ofNat 2147483647), none), .inl ((.ofNat 0, .ofNat 12), none), .inl ((.negSucc 2147483647, .ofNat 2147483647), none), .inl ((.negSucc 2147483647, .ofNat 2147483647), none), .inr (.inr (.inl 122)), .inr (.inr (.inl 123)), .inr (.inr (.inl 124))]
set_option maxRecDepth 100000 in
theorem zvk94 : zrget zyI.2.1 94 = some (.inr (8, zvf94)) := rfl
theorem zon {a : Nat} (h : a < 1000) : (Int32.ofNat a).toInt = (a : Int) := nI_toInt (by omega)
theorem zonB {a : Nat} (h : a < 2147483648) : (Int32.ofNat a).toInt = (a : Int) := nI_toInt (by omega)
theorem zsc1 {i k : Nat} (hi : i ≤ 2560) (hk : k ≤ 5) : (Int32.ofNat i + Int32.ofInt (k : Int)).toInt = ((i + k : Nat) : Int) := by
  have e : (Int32.ofInt (k : Int)).toInt = (k : Int) := by
    have := (by decide : ∀ k : Nat, k < 6 → (Int32.ofInt (k : Int)).toInt = (k : Int))
    exact this k (by omega)
  rw [Int32.toInt_add, zonB (show i < 2147483648 by omega), e, zbm (B := 2147483648) (by decide) (by omega) (by omega)]
  omega
theorem zinc5 {i : Nat} (hi : i ≤ 2560) : Int32.ofNat i + Int32.ofInt 5 = Int32.ofNat (i + 5) := by
  apply Int32.toInt_inj.mp
  rw [zonB (show i + 5 < 2147483648 by omega)]
  exact zsc1 hi (by decide)
noncomputable def zq1 : zJ := zjQ [(1, 1), (94, 8)] [] [(1, 1, 0), (94, 8, 0)] [] yP1
theorem zq1_C : xz_C [(1, 1), (94, 8)] [] yP1 := by
  intro I I' h1 h2 h
  have a := h1 (1, 1) (by simp)
  have b := h1 (94, 8) (by simp)
  unfold yP1 at h ⊢
  rw [a, b]
  exact h
theorem zq1_Z : xz_Z [(1, 1, 0), (94, 8, 0)] [] yP1 := by
  intro I h1 h2
  have a : (I 1 1).toInt = 0 := h1 (1, 1, 0) (by simp)
  have b : (I 94 8).toInt = 0 := h1 (94, 8, 0) (by simp)
  unfold yP1
  rw [xt_eq, a, b]
set_option maxRecDepth 100000 in
theorem zq1_h : xz_sh [(1, 1), (94, 8)] [] zyI = true := by decide +kernel
noncomputable def zq2 : zJ := zjQ [] [2, 99] [] [(2, 0, 80, 0), (99, 0, 80, 0)] yP2
theorem zq2_C : xz_C [] [2, 99] yP2 := by
  intro I I' h1 h2 h
  intro i hi
  rw [h2 2 (by simp) i, h2 99 (by simp) i]
  exact h i hi
theorem zq2_Z : xz_Z [] [(2, 0, 80, 0), (99, 0, 80, 0)] yP2 := by
  intro I h1 h2
  intro i hi
  have a : (I 2 i).toInt = 0 := h2 (2, 0, 80, 0) (by simp) i (Nat.zero_le _) hi
  have b : (I 99 i).toInt = 0 := h2 (99, 0, 80, 0) (by simp) i (Nat.zero_le _) hi
  have a : I 2 i = 0 := xt_eq.mpr a
  have b : I 99 i = 0 := xt_eq.mpr b
  rw [a, b]
  decide
set_option maxRecDepth 100000 in
theorem zq2_h : xz_sh [] [2, 99] zyI = true := by decide +kernel
noncomputable def zq3 : zJ := zjQ [(3, 6), (94, 3)] [] [(3, 6, 0), (94, 3, 0)] [] yP3
theorem zq3_C : xz_C [(3, 6), (94, 3)] [] yP3 := by
  intro I I' h1 h2 h
  have a := h1 (3, 6) (by simp)
  have b := h1 (94, 3) (by simp)
  unfold yP3 at h ⊢
  rw [a, b]
  exact h
theorem zq3_Z : xz_Z [(3, 6, 0), (94, 3, 0)] [] yP3 := by
  intro I h1 h2
  have a : (I 3 6).toInt = 0 := h1 (3, 6, 0) (by simp)
  have b : (I 94 3).toInt = 0 := h1 (94, 3, 0) (by simp)
  unfold yP3
  rw [xt_eq, a, b]
set_option maxRecDepth 100000 in
theorem zq3_h : xz_sh [(3, 6), (94, 3)] [] zyI = true := by decide +kernel
noncomputable def zq4 : zJ := zjQ [(3, 6)] [4, 5, 6, 96, 97, 98] [(3, 6, 0)] [] yP4
theorem zq4_C : xz_C [(3, 6)] [4, 5, 6, 96, 97, 98] yP4 := by
  intro I I' h1 h2 h
  intro r hr hc
  have a : I' 3 6 = I 3 6 := h1 (3, 6) (by simp)
  rw [a] at hc
  rw [h2 4 (by simp) r, h2 5 (by simp) r, h2 6 (by simp) r, h2 96 (by simp) r, h2 97 (by simp) r, h2 98 (by simp) r]
  exact h r hr hc
theorem zq4_Z : xz_Z [(3, 6, 0)] [] yP4 := by
  intro I h1 h2
  intro r hr hc
  have a : (I 3 6).toInt = 0 := h1 (3, 6, 0) (by simp)
  omega
set_option maxRecDepth 100000 in
theorem zq4_h : xz_sh [(3, 6)] [4, 5, 6, 96, 97, 98] zyI = true := by decide +kernel
noncomputable def zq5 : zJ := zjQ [(94, 3), (94, 47)] [63, 123, 124] [(94, 3, 0), (94, 47, 0)] [(63, 0, 2, 0), (123, 0, 2, 0), (124, 0, 2, 0)] yP5
theorem zq5_C : xz_C [(94, 3), (94, 47)] [63, 123, 124] yP5 := by
  intro I I' h1 h2 h
  have a : I' 94 3 = I 94 3 := h1 (94, 3) (by simp)
  have b : I' 94 47 = I 94 47 := h1 (94, 47) (by simp)
  obtain ⟨p5, p6, p7⟩ := h
  refine ⟨by rw [b]; exact p5, by rw [a, b]; exact p6, fun i hi => ?_⟩
  rw [h2 63 (by simp) i, h2 123 (by simp) i, h2 124 (by simp) i, b]
  exact p7 i hi
theorem zq5_Z : xz_Z [(94, 3, 0), (94, 47, 0)] [(63, 0, 2, 0), (123, 0, 2, 0), (124, 0, 2, 0)] yP5 := by
  intro I h1 h2
  have a : (I 94 3).toInt = 0 := h1 (94, 3, 0) (by simp)
  have b : (I 94 47).toInt = 0 := h1 (94, 47, 0) (by simp)
  refine ⟨by omega, by omega, fun i hi => ?_⟩
  have c : (I 63 i).toInt = 0 := h2 (63, 0, 2, 0) (by simp) i (Nat.zero_le _) hi
  have d : (I 123 i).toInt = 0 := h2 (123, 0, 2, 0) (by simp) i (Nat.zero_le _) hi
  have f : (I 124 i).toInt = 0 := h2 (124, 0, 2, 0) (by simp) i (Nat.zero_le _) hi
  have c : I 63 i = 0 := xt_eq.mpr c
  have d : I 123 i = 0 := xt_eq.mpr d
  exact ⟨by omega, ⟨fun h => absurd c h, fun h => absurd d h.1⟩⟩
set_option maxRecDepth 100000 in
theorem zq5_h : xz_sh [(94, 3), (94, 47)] [63, 123, 124] zyI = true := by decide +kernel
theorem zqC_of {o a : List (Nat × Nat)} {P : (Nat → Nat → Int32) → Prop} (hT : ∀ I I' : Nat → Nat → Int32, (∀ k j, yT o a k j → I' k j = I k j) → P I → P I') : xz_C o (a.map (fun q => q.1)) P := by
  intro I I' h1 h2 h
  refine hT I I' (fun k j hk => ?_) h
  rcases hk with hk | ⟨n, hk, _⟩
  · exact h1 (k, j) hk
  · exact h2 k (List.mem_map.mpr ⟨(k, n), hk, rfl⟩) j
noncomputable def zq6 : zJ := zjQ oH9 (aH9.map (fun q => q.1)) [(94, 1, 8), (3, 7, 8), (94, 2, 4), (3, 8, 4)] [] yHb
theorem zq6_C : xz_C oH9 (aH9.map (fun q => q.1)) yHb := zqC_of (fun _ _ h hP => yHb_T h hP)
theorem zq6_Z : xz_Z [(94, 1, 8), (3, 7, 8), (94, 2, 4), (3, 8, 4)] [] yHb := by
  intro I h1 h2
  have a : (I 94 1).toInt = 8 := h1 (94, 1, 8) (by simp)
  have b : (I 3 7).toInt = 8 := h1 (3, 7, 8) (by simp)
  have c : (I 94 2).toInt = 4 := h1 (94, 2, 4) (by simp)
  have d : (I 3 8).toInt = 4 := h1 (3, 8, 4) (by simp)
  exact ⟨by rw [xt_eq, a, b], by rw [xt_eq, c, d]⟩
set_option maxRecDepth 100000 in
theorem zq6_h : xz_sh oH9 (aH9.map (fun q => q.1)) zyI = true := by decide +kernel
noncomputable def zq7 : zJ := zjQ oL9 (aL9.map (fun q => q.1)) [(10, 4, 9), (94, 20, 0)] [(11, 0, 1, -2), (11, 1, 2, -3), (11, 2, 3, -43), (11, 3, 4, -1), (11, 4, 5, 5), (11, 5, 6, -62), (11, 6, 7, 9), (11, 7, 8, -42), (11, 8, 9, -43)] yL
theorem zq7_C : xz_C oL9 (aL9.map (fun q => q.1)) yL := zqC_of (fun _ _ h hP => yL_T h hP)
theorem zq7_Z : xz_Z [(10, 4, 9), (94, 20, 0)] [(11, 0, 1, -2), (11, 1, 2, -3), (11, 2, 3, -43), (11, 3, 4, -1), (11, 4, 5, 5), (11, 5, 6, -62), (11, 6, 7, 9), (11, 7, 8, -42), (11, 8, 9, -43)] yL := by
  intro I h1 h2
  have a : (I 10 4).toInt = 9 := h1 (10, 4, 9) (by simp)
  have b : (I 94 20).toInt = 0 := h1 (94, 20, 0) (by simp)
  have c0 : (I 11 0).toInt = -2 := h2 (11, 0, 1, -2) (by simp) 0 (by decide) (by decide)
  have c1 : (I 11 1).toInt = -3 := h2 (11, 1, 2, -3) (by simp) 1 (by decide) (by decide)
  have c2 : (I 11 2).toInt = -43 := h2 (11, 2, 3, -43) (by simp) 2 (by decide) (by decide)
  have c3 : (I 11 3).toInt = -1 := h2 (11, 3, 4, -1) (by simp) 3 (by decide) (by decide)
  have c4 : (I 11 4).toInt = 5 := h2 (11, 4, 5, 5) (by simp) 4 (by decide) (by decide)
  have c5 : (I 11 5).toInt = -62 := h2 (11, 5, 6, -62) (by simp) 5 (by decide) (by decide)
  have c6 : (I 11 6).toInt = 9 := h2 (11, 6, 7, 9) (by simp) 6 (by decide) (by decide)
  have c7 : (I 11 7).toInt = -42 := h2 (11, 7, 8, -42) (by simp) 7 (by decide) (by decide)
  have c8 : (I 11 8).toInt = -43 := h2 (11, 8, 9, -43) (by simp) 8 (by decide) (by decide)
  refine ⟨9, 0, xt_eq.mpr (a.trans (by decide)), by decide, xt_eq.mpr (b.trans (by decide)), by decide, fun e => ⟨yg_v1 e, ?_, fun _ => rfl, fun z => absurd z (by decide)⟩⟩
  have d0 : I 11 0 = -2 := xt_eq.mpr (c0.trans (by decide))
  have d1 : I 11 1 = -3 := xt_eq.mpr (c1.trans (by decide))
  have d2 : I 11 2 = -43 := xt_eq.mpr (c2.trans (by decide))
  have d3 : I 11 3 = -1 := xt_eq.mpr (c3.trans (by decide))
  have d4 : I 11 4 = 5 := xt_eq.mpr (c4.trans (by decide))
  have d5 : I 11 5 = -62 := xt_eq.mpr (c5.trans (by decide))
  have d6 : I 11 6 = 9 := xt_eq.mpr (c6.trans (by decide))
  have d7 : I 11 7 = -42 := xt_eq.mpr (c7.trans (by decide))
  have d8 : I 11 8 = -43 := xt_eq.mpr (c8.trans (by decide))
  show yk_evl e [I 11 8, I 11 7, I 11 6, I 11 5, I 11 4, I 11 3, I 11 2, I 11 1, I 11 0] = _
  rw [d0, d1, d2, d3, d4, d5, d6, d7, d8]
  rfl
set_option maxRecDepth 100000 in
theorem zq7_h : xz_sh oL9 (aL9.map (fun q => q.1)) zyI = true := by decide +kernel
noncomputable def zq8 : zJ := zjQ oN9 (aN9.map (fun q => q.1)) [(3, 6, 0), (15, 2, 0), (15, 3, 0), (15, 4, 0), (15, 5, 0)] [(16, 0, 8, -1), (17, 0, 8, 0), (95, 0, 8, -1), (95, 8, 27, 0)] yN
theorem zq8_C : xz_C oN9 (aN9.map (fun q => q.1)) yN := zqC_of (fun _ _ h hP => yN_T h hP)
theorem zq8_Z : xz_Z [(3, 6, 0), (15, 2, 0), (15, 3, 0), (15, 4, 0), (15, 5, 0)] [(16, 0, 8, -1), (17, 0, 8, 0), (95, 0, 8, -1), (95, 8, 27, 0)] yN := by
  intro I h1 h2
  have a : (I 3 6).toInt = 0 := h1 (3, 6, 0) (by simp)
  have i2 : (I 15 2).toInt = 0 := h1 (15, 2, 0) (by simp)
  have i3 : (I 15 3).toInt = 0 := h1 (15, 3, 0) (by simp)
  have i4 : (I 15 4).toInt = 0 := h1 (15, 4, 0) (by simp)
  have i5 : (I 15 5).toInt = 0 := h1 (15, 5, 0) (by simp)
  have z : ∀ x : Int32, x.toInt = 0 → x = 0 := fun x h => xt_eq.mpr (h.trans (by decide))
  have m : ∀ x : Int32, x.toInt = -1 → x = -1 := fun x h => xt_eq.mpr (h.trans (by decide))
  have r16 : ∀ i, i < 8 → I 16 i = -1 := fun i hi => m _ (h2 (16, 0, 8, -1) (by simp) i (Nat.zero_le _) hi)
  have r17 : ∀ i, i < 8 → I 17 i = 0 := fun i hi => z _ (h2 (17, 0, 8, 0) (by simp) i (Nat.zero_le _) hi)
  have r95 : ∀ i, i < 8 → I 95 i = -1 := fun i hi => m _ (h2 (95, 0, 8, -1) (by simp) i (Nat.zero_le _) hi)
  have s95 : ∀ i, 8 ≤ i → i < 27 → I 95 i = 0 := fun i h8 hi => z _ (h2 (95, 8, 27, 0) (by simp) i h8 hi)
  have il0 : ∀ r, r < 8 → yIl 0 r = 0 := by decide +kernel
  refine ⟨0, z _ a, by decide, y27 (fun i hi => ?_) (fun r hr => ?_) (fun r hr => ?_) ?_ ?_ ?_, fun i hi => ?_, fun r hr => ?_⟩
  · rw [yq_s_1 hi, r95 i hi, r16 i hi]
  · rw [yq_s_2 hr, s95 _ (by omega) (by omega), r17 r hr]
  · rw [yq_s_3 hr, s95 _ (by omega) (by omega), z _ i2, il0 r hr]
  · rw [yq_s_24, s95 _ (by omega) (by omega), z _ i3]
  · rw [yq_s_25, s95 _ (by omega) (by omega), z _ i4]
  · rw [yq_s_26, s95 _ (by omega) (by omega), z _ i5]
  · rw [r95 i hi]
    decide
  · rw [s95 (8 + r) (by omega) (by omega), s95 (16 + r) (by omega) (by omega)]
    exact ⟨by decide, by decide, fun _ => ⟨rfl, rfl⟩⟩
set_option maxRecDepth 100000 in
theorem zq8_h : xz_sh oN9 (aN9.map (fun q => q.1)) zyI = true := by decide +kernel
noncomputable def zq9 : zJ := zjQ oA9 (aA9.map (fun q => q.1)) [(3, 6, 0), (24, 1, 0), (24, 2, 0), (94, 24, 0)] [] yPa
theorem zq9_C : xz_C oA9 (aA9.map (fun q => q.1)) yPa := zqC_of (fun _ _ h hP => yA_T h hP)
theorem zq9_Z : xz_Z [(3, 6, 0), (24, 1, 0), (24, 2, 0), (94, 24, 0)] [] yPa := by
  intro I h1 h2
  have a : (I 3 6).toInt = 0 := h1 (3, 6, 0) (by simp)
  have b : (I 24 1).toInt = 0 := h1 (24, 1, 0) (by simp)
  have c : (I 24 2).toInt = 0 := h1 (24, 2, 0) (by simp)
  have d : (I 94 24).toInt = 0 := h1 (94, 24, 0) (by simp)
  have z : ∀ x : Int32, x.toInt = 0 → x = 0 := fun x h => xt_eq.mpr (h.trans (by decide))
  exact ⟨0, 0, 0, z _ a, by decide, z _ b, by decide, z _ c, by decide, z _ d, fun j hj => absurd hj (Nat.not_lt_zero j)⟩
set_option maxRecDepth 100000 in
theorem zq9_h : xz_sh oA9 (aA9.map (fun q => q.1)) zyI = true := by decide +kernel
noncomputable def zqA : zJ := zjQ oK9 (aK9.map (fun q => q.1)) [(3, 6, 0)] [(63, 0, 2, 0)] yKe
theorem zqA_C : xz_C oK9 (aK9.map (fun q => q.1)) yKe := zqC_of (fun _ _ h hP => yK_T h hP)
theorem zqA_Z : xz_Z [(3, 6, 0)] [(63, 0, 2, 0)] yKe := by
  intro I h1 h2
  have a : (I 3 6).toInt = 0 := h1 (3, 6, 0) (by simp)
  have z : ∀ x : Int32, x.toInt = 0 → x = 0 := fun x h => xt_eq.mpr (h.trans (by decide))
  refine ⟨0, z _ a, by decide, fun k hk hne => absurd (z _ ?_) hne⟩
  exact h2 (63, 0, 2, 0) (by simp) k (Nat.zero_le _) hk
set_option maxRecDepth 100000 in
theorem zqA_h : xz_sh oK9 (aK9.map (fun q => q.1)) zyI = true := by decide +kernel
noncomputable def zqJ : List zJ := [zq1, zq2, zq3, zq4, zq5, zq6, zq7, zq8, zq9, zqA]
theorem zqJ_ok {D : va_G} {tys : List (ClassId × FieldType)} {z : Nat} : ∀ q ∈ zqJ, zJok D tys z q := by
  intro q hq
  unfold zqJ at hq
  simp only [List.mem_cons, List.not_mem_nil, or_false] at hq
  rcases hq with rfl | rfl | rfl | rfl | rfl | rfl | rfl | rfl | rfl | rfl
  · exact zjQ_ok zq1_C zq1_Z
  · exact zjQ_ok zq2_C zq2_Z
  · exact zjQ_ok zq3_C zq3_Z
  · exact zjQ_ok zq4_C zq4_Z
  · exact zjQ_ok zq5_C zq5_Z
  · exact zjQ_ok zq6_C zq6_Z
  · exact zjQ_ok zq7_C zq7_Z
  · exact zjQ_ok zq8_C zq8_Z
  · exact zjQ_ok zq9_C zq9_Z
  · exact zjQ_ok zqA_C zqA_Z
theorem zqJ_0 : ∀ q ∈ zqJ, q.1 0 = false := by
  intro q hq
  unfold zqJ at hq
  simp only [List.mem_cons, List.not_mem_nil, or_false] at hq
  rcases hq with rfl | rfl | rfl | rfl | rfl | rfl | rfl | rfl | rfl | rfl
  · exact xz_0
  · exact xz_0
  · exact xz_0
  · exact xz_0
  · exact xz_0
  · exact xz_0
  · exact xz_0
  · exact xz_0
  · exact xz_0
  · exact xz_0
theorem zqP_of {ws : va_W} (h : ∀ q ∈ zqJ, q.2.2 ws) : yF (xz_I ws) := ⟨⟨(h zq1 (by unfold zqJ; simp)).2, (h zq2 (by unfold zqJ; simp)).2, (h zq3 (by unfold zqJ; simp)).2, (h zq4 (by unfold zqJ; simp)).2, (h zq5 (by unfold zqJ; simp)).2⟩, (h zq6 (by unfold zqJ; simp)).2, (h zq7 (by unfold zqJ; simp)).2, (h zq8 (by unfold zqJ; simp)).2, (h zq9 (by unfold zqJ; simp)).2, (h zqA (by unfold zqJ; simp)).2⟩
theorem zqJ_of {D : va_G} {tys : List (ClassId × FieldType)} {o : zO} {z : Nat} {H0 H : Heap} {locs : List Loc} {ws : va_W} {bb : Nat → Nat} {f : Nat → Nat → Value} {g : Nat → Nat → Int32} (hv : zV zyI D tys o z H0 bb f g ws H locs) (hP : yF (xb_I f g)) : ∀ q ∈ zqJ, q.2.2 ws := by
  have hP : yF (xz_I ws) := by
    unfold xz_I
    rw [hv.2.2.2.2.2.1, hv.2.2.2.2.2.2]
    exact hP
  obtain ⟨⟨p0, p1, p2, p3, p4⟩, p5, p6, p7, p8, p9⟩ := hP
  intro q hq
  unfold zqJ at hq
  simp only [List.mem_cons, List.not_mem_nil, or_false] at hq
  rcases hq with rfl | rfl | rfl | rfl | rfl | rfl | rfl | rfl | rfl | rfl
  · exact ⟨xz_ex_of hv.1 zq1_h, p0⟩
  · exact ⟨xz_ex_of hv.1 zq2_h, p1⟩
  · exact ⟨xz_ex_of hv.1 zq3_h, p2⟩
  · exact ⟨xz_ex_of hv.1 zq4_h, p3⟩
  · exact ⟨xz_ex_of hv.1 zq5_h, p4⟩
  · exact ⟨xz_ex_of hv.1 zq6_h, p5⟩
  · exact ⟨xz_ex_of hv.1 zq7_h, p6⟩
  · exact ⟨xz_ex_of hv.1 zq8_h, p7⟩
  · exact ⟨xz_ex_of hv.1 zq9_h, p8⟩
  · exact ⟨xz_ex_of hv.1 zqA_h, p9⟩
section ZRND
variable {p : Program} {l : Launch} {e : Env} {s : State} {m : MethodId} {below : List Frame} {meth : Method} {c0 : Code} {b : Nat} {D : va_G} {tys : List (ClassId × FieldType)} {o : zO} {z : Nat} {nm : String} {L : Nat} {xs : Nat → Int32}
/-- a round opens -/
theorem zop9 {g : Nat → Int32} {i : Nat} {jq : zI} {ls : Array Slot} {vst : List Value} {H : Heap} {locs : List Loc} {ws : va_W} (hg : g 4 = Int32.ofNat i) (S0 : zSat D vwCl tys (zwith o g) z ws 8 s.heap (zcL9 0 zyI jq) ls vst H locs ws) : (∃ x : Int32, vst = [.int x] ∧ zmi jq x) ∧ lv_has ls 8 [(4, .int (Int32.ofNat i)), (0, .ref o.1), (1, .ref (zwB ws 0)), (2, .ref (zwB ws 94)), (3, .ref (zwB ws 125))] ∧ zV zyI D tys o z s.heap (zwB ws) (zwV ws) (zwA ws) ws H locs := by
  obtain ⟨⟨lv, s1, s2⟩, s3, s4, s5, s6, s7, s8⟩ := S0
  refine ⟨?_, ?_, ⟨⟨s4.1, s4.2⟩, s5, s6, s7, rfl, rfl, rfl⟩⟩
  · obtain ⟨v, t, rfl, h1, h2⟩ := zr2_cons s3
    have e := zr2_nil h2
    subst e
    obtain ⟨x, rfl, hx, -⟩ := zint h1
    exact ⟨x, rfl, hx⟩
  · obtain ⟨⟨j4, v4⟩, lv4, rfl, ⟨a1, a2⟩, a3⟩ := zr2_cons s2
    obtain ⟨⟨j0, v0⟩, lv0, rfl, ⟨b1, b2⟩, b3⟩ := zr2_cons a3
    obtain ⟨⟨j1, v1⟩, lv1, rfl, ⟨c1, c2⟩, c3⟩ := zr2_cons b3
    obtain ⟨⟨j2, v2⟩, lv2, rfl, ⟨d1, d2⟩, d3⟩ := zr2_cons c3
    obtain ⟨⟨j3, v3⟩, lv3, rfl, ⟨e1, e2⟩, e3⟩ := zr2_cons d3
    have hnil := zr2_nil e3
    subst hnil
    have a1 : 4 = j4 := a1
    have b1 : 0 = j0 := b1
    have c1 : 1 = j1 := c1
    have d1 : 2 = j2 := d1
    have e1 : 3 = j3 := e1
    have b2 : v0 = .ref o.1 := b2
    subst a1
    subst b1
    subst c1
    subst d1
    subst e1
    subst b2
    obtain ⟨x4, rfl, -, tx⟩ := a2
    have tx : x4 = g 4 + Int32.ofInt (.ofNat 0) := (ztg_eq (q := (4, .ofNat 0)) (by decide)).mp tx
    have ex : x4 = Int32.ofNat i := by rw [tx, hg]; exact Int32.add_zero _
    subst ex
    obtain ⟨q1, hq1, rfl⟩ := c2
    obtain ⟨q2, hq2, rfl⟩ := d2
    obtain ⟨q3, hq3, rfl⟩ := e2
    obtain ⟨n1, m1⟩ := zad_some hq1
    obtain ⟨n2, m2⟩ := zad_some hq2
    obtain ⟨n3, m3⟩ := zad_some hq3
    rw [zwB_of m1, zwB_of m2, zwB_of m3]
    exact s1
/-- a round closes -/
theorem zcl9 {Js : List zJ} {i K S : Nat} (hi : i + 5 ≤ 2560) (hn : zNx p l e s m b below meth c0 D tys o z zyI Js i K S) {ls : Array Slot} {H : Heap} {locs : List Loc} {ws : va_W} {bb : Nat → Nat} {f : Nat → Nat → Value} {g : Nat → Nat → Int32} (hlv : lv_has ls 8 [(4, .int (Int32.ofNat (i + 5))), (0, .ref o.1), (1, .ref (bb 0)), (2, .ref (bb 94)), (3, .ref (bb 125))]) (hv : zV zyI D tys o z s.heap bb f g ws H locs) (hR : ∀ q ∈ Js, q.2.2 ws) : W p l e room_1 s m #[Value.ref b] below meth c0 H locs (0 + K) (0 + S) (lw_Z below #[Value.ref b] s) (F0 m 23 ls []) := by
  have e5 : (Int32.ofNat (i + 5)).toInt = ((i + 5 : Nat) : Int) := zonB (by omega)
  have e4 : zgv ls 4 = Int32.ofNat (i + 5) := zgv_lo (by decide) (lv_at hlv 0 rfl)
  refine W.widen (k := 0 + (K + 1)) (n := 0 + (S + 6)) (by omega) (by omega) (hn ls H locs ws ⟨⟨_, hlv, ⟨rfl, _, rfl, ⟨?_, ?_⟩, ?_⟩, ⟨rfl, rfl⟩, ⟨rfl, _, zV_ad hv (show 0 < 126 by decide), rfl⟩, ⟨rfl, _, zV_ad hv (show 94 < 126 by decide), rfl⟩, ⟨rfl, _, zV_ad hv (show 125 < 126 by decide), rfl⟩, trivial⟩, trivial, ⟨hv.1.1, hv.1.2⟩, hv.2.1, hv.2.2.1, hv.2.2.2.1, fun k a e he => by simp at he⟩ e4 hR)
  · show (0 : Int) ≤ (Int32.ofNat (i + 5)).toInt
    omega
  · show (Int32.ofNat (i + 5)).toInt ≤ (2560 : Int)
    omega
  · refine (ztg_eq (q := (4, .ofNat 0)) (by decide)).mpr ?_
    show Int32.ofNat (i + 5) = zgv ls 4 + Int32.ofInt (.ofNat 0)
    rw [e4]
    exact (Int32.add_zero _).symm
end ZRND
set_option maxRecDepth 100000 in
theorem zcx_X8_rule_k : zxK 300 60000 276 (xz_as 94 0) (some (.inl (ztopI, none))) zmall = true := by decide +kernel
theorem zcx_X8_rule {l0 : Launch} {D : va_G} {tys : List (ClassId × FieldType)} {o : zO} {z : Nat} {b : Nat → Nat} {f : Nat → Nat → Value} {g : Nat → Nat → Int32} (E : zEnv tys) {d : Nat} (hd : d ≤ 200) {Po : Int32 → (Nat → Nat → Int32) → Prop} (hx : ∀ J : Nat → Nat → Int64, ∃ a I' J' R', xq_D xqP d 276 (.ref 94 :: [].map Value.int) (xb_I f g, J, xb_R zyI f) = some (some (.int a), I', J', R') ∧ Po a I') : zCt l0 D tys o z zyI b mX8_rule 300 60000 [.ref (b 94)] f g (fun v f' g' => ∃ a I', v = some (.int a) ∧ Po a I' ∧ xb_ag I' f' g') :=
  zCt_mono (xz_ct (k := 94) (mi := 276) (m1 := mX8_rule) (m2 := m2X8_rule) (mk := zmall) (xs := []) (r := some (.inl (ztopI, none))) E rfl rfl (fun h => h) zcx_X8_rule_k (by decide) hd hx) (fun _ _ _ h => h.1)
set_option maxRecDepth 100000 in
theorem zcx_X7_sign_k : zxK 300 60000 167 (xz_as 0 1) (some (.inl (ztopI, none))) k9X7_sign = true := by decide +kernel
theorem zcx_X7_sign {l0 : Launch} {D : va_G} {tys : List (ClassId × FieldType)} {o : zO} {z : Nat} {b : Nat → Nat} {f : Nat → Nat → Value} {g : Nat → Nat → Int32} (E : zEnv tys) {d : Nat} (hd : d ≤ 200) {x0 : Int32} {Po : Int32 → (Nat → Nat → Int32) → Prop} (hx : ∀ J : Nat → Nat → Int64, ∃ a I' J' R', xq_D xqP d 167 (.ref 0 :: [x0].map Value.int) (xb_I f g, J, xb_R zyI f) = some (some (.int a), I', J', R') ∧ Po a I') : zCt l0 D tys o z zyI b mX7_sign 300 60000 [.ref (b 0), .int x0] f g (fun v f' g' => (∃ a I', v = some (.int a) ∧ Po a I' ∧ xb_ag I' f' g') ∧ (∀ k j, zbit k9X7_sign k j = false → f' k j = f k j) ∧ ∀ k, zbit k9X7_sign k 0 = false → g' k = g k) :=
  xz_ct (k := 0) (mi := 167) (m1 := mX7_sign) (m2 := mX7_sign) (mk := k9X7_sign) (xs := [x0]) (r := some (.inl (ztopI, none))) E rfl rfl (fun h => h) zcx_X7_sign_k (by decide) hd hx
set_option maxRecDepth 100000 in
theorem zcx_X8_sign_k : zxK 300 60000 280 (xz_as 94 1) (some (.inl (ztopI, none))) k9X8_sign = true := by decide +kernel
theorem zcx_X8_sign {l0 : Launch} {D : va_G} {tys : List (ClassId × FieldType)} {o : zO} {z : Nat} {b : Nat → Nat} {f : Nat → Nat → Value} {g : Nat → Nat → Int32} (E : zEnv tys) {d : Nat} (hd : d ≤ 200) {x0 : Int32} {Po : Int32 → (Nat → Nat → Int32) → Prop} (hx : ∀ J : Nat → Nat → Int64, ∃ a I' J' R', xq_D xqP d 280 (.ref 94 :: [x0].map Value.int) (xb_I f g, J, xb_R zyI f) = some (some (.int a), I', J', R') ∧ Po a I') : zCt l0 D tys o z zyI b mX8_sign 300 60000 [.ref (b 94), .int x0] f g (fun v f' g' => (∃ a I', v = some (.int a) ∧ Po a I' ∧ xb_ag I' f' g') ∧ (∀ k j, zbit k9X8_sign k j = false → f' k j = f k j) ∧ ∀ k, zbit k9X8_sign k 0 = false → g' k = g k) :=
  xz_ct (k := 94) (mi := 280) (m1 := mX8_sign) (m2 := m2X8_sign) (mk := k9X8_sign) (xs := [x0]) (r := some (.inl (ztopI, none))) E rfl rfl (fun h => h) zcx_X8_sign_k (by decide) hd hx
set_option maxRecDepth 100000 in
theorem zcx_X7_end_k : zxK 300 60000 115 (xz_as 0 1) (some (.inl (ztopI, none))) k9X7_end = true := by decide +kernel
theorem zcx_X7_end {l0 : Launch} {D : va_G} {tys : List (ClassId × FieldType)} {o : zO} {z : Nat} {b : Nat → Nat} {f : Nat → Nat → Value} {g : Nat → Nat → Int32} (E : zEnv tys) {d : Nat} (hd : d ≤ 200) {x0 : Int32} {Po : Int32 → (Nat → Nat → Int32) → Prop} (hx : ∀ J : Nat → Nat → Int64, ∃ a I' J' R', xq_D xqP d 115 (.ref 0 :: [x0].map Value.int) (xb_I f g, J, xb_R zyI f) = some (some (.int a), I', J', R') ∧ Po a I') : zCt l0 D tys o z zyI b mX7_end 300 60000 [.ref (b 0), .int x0] f g (fun v f' g' => (∃ a I', v = some (.int a) ∧ Po a I' ∧ xb_ag I' f' g') ∧ (∀ k j, zbit k9X7_end k j = false → f' k j = f k j) ∧ ∀ k, zbit k9X7_end k 0 = false → g' k = g k) :=
  xz_ct (k := 0) (mi := 115) (m1 := mX7_end) (m2 := m2X7_end) (mk := k9X7_end) (xs := [x0]) (r := some (.inl (ztopI, none))) E rfl rfl (fun h => h) zcx_X7_end_k (by decide) hd hx
set_option maxRecDepth 100000 in
theorem zcx_X8_end_k : zxK 300 60000 205 (xz_as 94 1) (some (.inl (ztopI, none))) k9X8_end = true := by decide +kernel
theorem zcx_X8_end {l0 : Launch} {D : va_G} {tys : List (ClassId × FieldType)} {o : zO} {z : Nat} {b : Nat → Nat} {f : Nat → Nat → Value} {g : Nat → Nat → Int32} (E : zEnv tys) {d : Nat} (hd : d ≤ 200) {x0 : Int32} {Po : Int32 → (Nat → Nat → Int32) → Prop} (hx : ∀ J : Nat → Nat → Int64, ∃ a I' J' R', xq_D xqP d 205 (.ref 94 :: [x0].map Value.int) (xb_I f g, J, xb_R zyI f) = some (some (.int a), I', J', R') ∧ Po a I') : zCt l0 D tys o z zyI b mX8_end 300 60000 [.ref (b 94), .int x0] f g (fun v f' g' => (∃ a I', v = some (.int a) ∧ Po a I' ∧ xb_ag I' f' g') ∧ (∀ k j, zbit k9X8_end k j = false → f' k j = f k j) ∧ ∀ k, zbit k9X8_end k 0 = false → g' k = g k) :=
  xz_ct (k := 94) (mi := 205) (m1 := mX8_end) (m2 := m2X8_end) (mk := k9X8_end) (xs := [x0]) (r := some (.inl (ztopI, none))) E rfl rfl (fun h => h) zcx_X8_end_k (by decide) hd hx
set_option maxRecDepth 100000 in
theorem zcx_X7_riders_k : zxK 300 60000 158 (xz_as 0 0) (some (.inl (ztopI, none))) k9X7_riders = true := by decide +kernel
theorem zcx_X7_riders {l0 : Launch} {D : va_G} {tys : List (ClassId × FieldType)} {o : zO} {z : Nat} {b : Nat → Nat} {f : Nat → Nat → Value} {g : Nat → Nat → Int32} (E : zEnv tys) {d : Nat} (hd : d ≤ 200) {Po : Int32 → (Nat → Nat → Int32) → Prop} (hx : ∀ J : Nat → Nat → Int64, ∃ a I' J' R', xq_D xqP d 158 (.ref 0 :: [].map Value.int) (xb_I f g, J, xb_R zyI f) = some (some (.int a), I', J', R') ∧ Po a I') : zCt l0 D tys o z zyI b mX7_riders 300 60000 [.ref (b 0)] f g (fun v f' g' => (∃ a I', v = some (.int a) ∧ Po a I' ∧ xb_ag I' f' g') ∧ (∀ k j, zbit k9X7_riders k j = false → f' k j = f k j) ∧ ∀ k, zbit k9X7_riders k 0 = false → g' k = g k) :=
  xz_ct (k := 0) (mi := 158) (m1 := mX7_riders) (m2 := mX7_riders) (mk := k9X7_riders) (xs := []) (r := some (.inl (ztopI, none))) E rfl rfl (fun h => h) zcx_X7_riders_k (by decide) hd hx
set_option maxRecDepth 100000 in
theorem zcx_X8_riders_k : zxK 300 60000 272 (xz_as 94 0) (some (.inl (ztopI, none))) k9X8_riders = true := by decide +kernel
theorem zcx_X8_riders {l0 : Launch} {D : va_G} {tys : List (ClassId × FieldType)} {o : zO} {z : Nat} {b : Nat → Nat} {f : Nat → Nat → Value} {g : Nat → Nat → Int32} (E : zEnv tys) {d : Nat} (hd : d ≤ 200) {Po : Int32 → (Nat → Nat → Int32) → Prop} (hx : ∀ J : Nat → Nat → Int64, ∃ a I' J' R', xq_D xqP d 272 (.ref 94 :: [].map Value.int) (xb_I f g, J, xb_R zyI f) = some (some (.int a), I', J', R') ∧ Po a I') : zCt l0 D tys o z zyI b mX8_riders 300 60000 [.ref (b 94)] f g (fun v f' g' => (∃ a I', v = some (.int a) ∧ Po a I' ∧ xb_ag I' f' g') ∧ (∀ k j, zbit k9X8_riders k j = false → f' k j = f k j) ∧ ∀ k, zbit k9X8_riders k 0 = false → g' k = g k) :=
  xz_ct (k := 94) (mi := 272) (m1 := mX8_riders) (m2 := m2X8_riders) (mk := k9X8_riders) (xs := []) (r := some (.inl (ztopI, none))) E rfl rfl (fun h => h) zcx_X8_riders_k (by decide) hd hx
set_option maxRecDepth 100000 in
theorem zcx_X7_set_k : zxK 300 60000 164 (xz_as 0 2) (some (.inl (ztopI, none))) k9X7_set = true := by decide +kernel
theorem zcx_X7_set {l0 : Launch} {D : va_G} {tys : List (ClassId × FieldType)} {o : zO} {z : Nat} {b : Nat → Nat} {f : Nat → Nat → Value} {g : Nat → Nat → Int32} (E : zEnv tys) {d : Nat} (hd : d ≤ 200) {x0 : Int32} {x1 : Int32} {Po : Int32 → (Nat → Nat → Int32) → Prop} (hx : ∀ J : Nat → Nat → Int64, ∃ a I' J' R', xq_D xqP d 164 (.ref 0 :: [x0, x1].map Value.int) (xb_I f g, J, xb_R zyI f) = some (some (.int a), I', J', R') ∧ Po a I') : zCt l0 D tys o z zyI b mX7_set 300 60000 [.ref (b 0), .int x0, .int x1] f g (fun v f' g' => (∃ a I', v = some (.int a) ∧ Po a I' ∧ xb_ag I' f' g') ∧ (∀ k j, zbit k9X7_set k j = false → f' k j = f k j) ∧ ∀ k, zbit k9X7_set k 0 = false → g' k = g k) :=
  xz_ct (k := 0) (mi := 164) (m1 := mX7_set) (m2 := m2X7_set) (mk := k9X7_set) (xs := [x0, x1]) (r := some (.inl (ztopI, none))) E rfl rfl (fun h => h) zcx_X7_set_k (by decide) hd hx
set_option maxRecDepth 100000 in
theorem zcx_X8_set_k : zxK 300 60000 277 (xz_as 94 2) (some (.inl (ztopI, none))) k9X8_set = true := by decide +kernel
theorem zcx_X8_set {l0 : Launch} {D : va_G} {tys : List (ClassId × FieldType)} {o : zO} {z : Nat} {b : Nat → Nat} {f : Nat → Nat → Value} {g : Nat → Nat → Int32} (E : zEnv tys) {d : Nat} (hd : d ≤ 200) {x0 : Int32} {x1 : Int32} {Po : Int32 → (Nat → Nat → Int32) → Prop} (hx : ∀ J : Nat → Nat → Int64, ∃ a I' J' R', xq_D xqP d 277 (.ref 94 :: [x0, x1].map Value.int) (xb_I f g, J, xb_R zyI f) = some (some (.int a), I', J', R') ∧ Po a I') : zCt l0 D tys o z zyI b mX8_set 300 60000 [.ref (b 94), .int x0, .int x1] f g (fun v f' g' => (∃ a I', v = some (.int a) ∧ Po a I' ∧ xb_ag I' f' g') ∧ (∀ k j, zbit k9X8_set k j = false → f' k j = f k j) ∧ ∀ k, zbit k9X8_set k 0 = false → g' k = g k) :=
  xz_ct (k := 94) (mi := 277) (m1 := mX8_set) (m2 := m2X8_set) (mk := k9X8_set) (xs := [x0, x1]) (r := some (.inl (ztopI, none))) E rfl rfl (fun h => h) zcx_X8_set_k (by decide) hd hx
set_option maxRecDepth 100000 in
theorem zcx_X7_sheet_k : zxK 300 60000 166 (xz_as 0 4) (some (.inl (ztopI, none))) k9X7_sheet = true := by decide +kernel
theorem zcx_X7_sheet {l0 : Launch} {D : va_G} {tys : List (ClassId × FieldType)} {o : zO} {z : Nat} {b : Nat → Nat} {f : Nat → Nat → Value} {g : Nat → Nat → Int32} (E : zEnv tys) {d : Nat} (hd : d ≤ 200) {x0 : Int32} {x1 : Int32} {x2 : Int32} {x3 : Int32} {Po : Int32 → (Nat → Nat → Int32) → Prop} (hx : ∀ J : Nat → Nat → Int64, ∃ a I' J' R', xq_D xqP d 166 (.ref 0 :: [x0, x1, x2, x3].map Value.int) (xb_I f g, J, xb_R zyI f) = some (some (.int a), I', J', R') ∧ Po a I') : zCt l0 D tys o z zyI b mX7_sheet 300 60000 [.ref (b 0), .int x0, .int x1, .int x2, .int x3] f g (fun v f' g' => (∃ a I', v = some (.int a) ∧ Po a I' ∧ xb_ag I' f' g') ∧ (∀ k j, zbit k9X7_sheet k j = false → f' k j = f k j) ∧ ∀ k, zbit k9X7_sheet k 0 = false → g' k = g k) :=
  xz_ct (k := 0) (mi := 166) (m1 := mX7_sheet) (m2 := m2X7_sheet) (mk := k9X7_sheet) (xs := [x0, x1, x2, x3]) (r := some (.inl (ztopI, none))) E rfl rfl (fun h => h) zcx_X7_sheet_k (by decide) hd hx
set_option maxRecDepth 100000 in
theorem zcx_X8_sheet_k : zxK 300 60000 279 (xz_as 94 4) (some (.inl (ztopI, none))) k9X8_sheet = true := by decide +kernel
theorem zcx_X8_sheet {l0 : Launch} {D : va_G} {tys : List (ClassId × FieldType)} {o : zO} {z : Nat} {b : Nat → Nat} {f : Nat → Nat → Value} {g : Nat → Nat → Int32} (E : zEnv tys) {d : Nat} (hd : d ≤ 200) {x0 : Int32} {x1 : Int32} {x2 : Int32} {x3 : Int32} {Po : Int32 → (Nat → Nat → Int32) → Prop} (hx : ∀ J : Nat → Nat → Int64, ∃ a I' J' R', xq_D xqP d 279 (.ref 94 :: [x0, x1, x2, x3].map Value.int) (xb_I f g, J, xb_R zyI f) = some (some (.int a), I', J', R') ∧ Po a I') : zCt l0 D tys o z zyI b mX8_sheet 300 60000 [.ref (b 94), .int x0, .int x1, .int x2, .int x3] f g (fun v f' g' => (∃ a I', v = some (.int a) ∧ Po a I' ∧ xb_ag I' f' g') ∧ (∀ k j, zbit k9X8_sheet k j = false → f' k j = f k j) ∧ ∀ k, zbit k9X8_sheet k 0 = false → g' k = g k) :=
  xz_ct (k := 94) (mi := 279) (m1 := mX8_sheet) (m2 := m2X8_sheet) (mk := k9X8_sheet) (xs := [x0, x1, x2, x3]) (r := some (.inl (ztopI, none))) E rfl rfl (fun h => h) zcx_X8_sheet_k (by decide) hd hx
set_option maxRecDepth 100000 in
theorem zcx_X7_rota_k : zxK 300 60000 159 (xz_as 0 0) (some (.inl (ztopI, none))) k9X7_rota = true := by decide +kernel
theorem zcx_X7_rota {l0 : Launch} {D : va_G} {tys : List (ClassId × FieldType)} {o : zO} {z : Nat} {b : Nat → Nat} {f : Nat → Nat → Value} {g : Nat → Nat → Int32} (E : zEnv tys) {d : Nat} (hd : d ≤ 200) {Po : Int32 → (Nat → Nat → Int32) → Prop} (hx : ∀ J : Nat → Nat → Int64, ∃ a I' J' R', xq_D xqP d 159 (.ref 0 :: [].map Value.int) (xb_I f g, J, xb_R zyI f) = some (some (.int a), I', J', R') ∧ Po a I') : zCt l0 D tys o z zyI b mX7_rota 300 60000 [.ref (b 0)] f g (fun v f' g' => (∃ a I', v = some (.int a) ∧ Po a I' ∧ xb_ag I' f' g') ∧ (∀ k j, zbit k9X7_rota k j = false → f' k j = f k j) ∧ ∀ k, zbit k9X7_rota k 0 = false → g' k = g k) :=
  xz_ct (k := 0) (mi := 159) (m1 := mX7_rota) (m2 := mX7_rota) (mk := k9X7_rota) (xs := []) (r := some (.inl (ztopI, none))) E rfl rfl (fun h => h) zcx_X7_rota_k (by decide) hd hx
set_option maxRecDepth 100000 in
theorem zcx_X8_rota_k : zxK 300 60000 273 (xz_as 94 0) (some (.inl (ztopI, none))) k9X8_rota = true := by decide +kernel
theorem zcx_X8_rota {l0 : Launch} {D : va_G} {tys : List (ClassId × FieldType)} {o : zO} {z : Nat} {b : Nat → Nat} {f : Nat → Nat → Value} {g : Nat → Nat → Int32} (E : zEnv tys) {d : Nat} (hd : d ≤ 200) {Po : Int32 → (Nat → Nat → Int32) → Prop} (hx : ∀ J : Nat → Nat → Int64, ∃ a I' J' R', xq_D xqP d 273 (.ref 94 :: [].map Value.int) (xb_I f g, J, xb_R zyI f) = some (some (.int a), I', J', R') ∧ Po a I') : zCt l0 D tys o z zyI b mX8_rota 300 60000 [.ref (b 94)] f g (fun v f' g' => (∃ a I', v = some (.int a) ∧ Po a I' ∧ xb_ag I' f' g') ∧ (∀ k j, zbit k9X8_rota k j = false → f' k j = f k j) ∧ ∀ k, zbit k9X8_rota k 0 = false → g' k = g k) :=
  xz_ct (k := 94) (mi := 273) (m1 := mX8_rota) (m2 := m2X8_rota) (mk := k9X8_rota) (xs := []) (r := some (.inl (ztopI, none))) E rfl rfl (fun h => h) zcx_X8_rota_k (by decide) hd hx
set_option maxRecDepth 100000 in
theorem zcx_X7_give_k : zxK 300 60000 126 (xz_as 0 2) (some (.inl (ztopI, none))) k9X7_give = true := by decide +kernel
theorem zcx_X7_give {l0 : Launch} {D : va_G} {tys : List (ClassId × FieldType)} {o : zO} {z : Nat} {b : Nat → Nat} {f : Nat → Nat → Value} {g : Nat → Nat → Int32} (E : zEnv tys) {d : Nat} (hd : d ≤ 200) {x0 : Int32} {x1 : Int32} {Po : Int32 → (Nat → Nat → Int32) → Prop} (hx : ∀ J : Nat → Nat → Int64, ∃ a I' J' R', xq_D xqP d 126 (.ref 0 :: [x0, x1].map Value.int) (xb_I f g, J, xb_R zyI f) = some (some (.int a), I', J', R') ∧ Po a I') : zCt l0 D tys o z zyI b mX7_give 300 60000 [.ref (b 0), .int x0, .int x1] f g (fun v f' g' => (∃ a I', v = some (.int a) ∧ Po a I' ∧ xb_ag I' f' g') ∧ (∀ k j, zbit k9X7_give k j = false → f' k j = f k j) ∧ ∀ k, zbit k9X7_give k 0 = false → g' k = g k) :=
  xz_ct (k := 0) (mi := 126) (m1 := mX7_give) (m2 := m2X7_give) (mk := k9X7_give) (xs := [x0, x1]) (r := some (.inl (ztopI, none))) E rfl rfl (fun h => h) zcx_X7_give_k (by decide) hd hx
set_option maxRecDepth 100000 in
theorem zcx_X8_give_k : zxK 300 60000 218 (xz_as 94 2) (some (.inl (ztopI, none))) k9X8_give = true := by decide +kernel
theorem zcx_X8_give {l0 : Launch} {D : va_G} {tys : List (ClassId × FieldType)} {o : zO} {z : Nat} {b : Nat → Nat} {f : Nat → Nat → Value} {g : Nat → Nat → Int32} (E : zEnv tys) {d : Nat} (hd : d ≤ 200) {x0 : Int32} {x1 : Int32} {Po : Int32 → (Nat → Nat → Int32) → Prop} (hx : ∀ J : Nat → Nat → Int64, ∃ a I' J' R', xq_D xqP d 218 (.ref 94 :: [x0, x1].map Value.int) (xb_I f g, J, xb_R zyI f) = some (some (.int a), I', J', R') ∧ Po a I') : zCt l0 D tys o z zyI b mX8_give 300 60000 [.ref (b 94), .int x0, .int x1] f g (fun v f' g' => (∃ a I', v = some (.int a) ∧ Po a I' ∧ xb_ag I' f' g') ∧ (∀ k j, zbit k9X8_give k j = false → f' k j = f k j) ∧ ∀ k, zbit k9X8_give k 0 = false → g' k = g k) :=
  xz_ct (k := 94) (mi := 218) (m1 := mX8_give) (m2 := m2X8_give) (mk := k9X8_give) (xs := [x0, x1]) (r := some (.inl (ztopI, none))) E rfl rfl (fun h => h) zcx_X8_give_k (by decide) hd hx
set_option maxRecDepth 100000 in
theorem zcx_X7_ill_k : zxK 300 60000 133 (xz_as 0 1) (some (.inl (ztopI, none))) k9X7_ill = true := by decide +kernel
theorem zcx_X7_ill {l0 : Launch} {D : va_G} {tys : List (ClassId × FieldType)} {o : zO} {z : Nat} {b : Nat → Nat} {f : Nat → Nat → Value} {g : Nat → Nat → Int32} (E : zEnv tys) {d : Nat} (hd : d ≤ 200) {x0 : Int32} {Po : Int32 → (Nat → Nat → Int32) → Prop} (hx : ∀ J : Nat → Nat → Int64, ∃ a I' J' R', xq_D xqP d 133 (.ref 0 :: [x0].map Value.int) (xb_I f g, J, xb_R zyI f) = some (some (.int a), I', J', R') ∧ Po a I') : zCt l0 D tys o z zyI b mX7_ill 300 60000 [.ref (b 0), .int x0] f g (fun v f' g' => (∃ a I', v = some (.int a) ∧ Po a I' ∧ xb_ag I' f' g') ∧ (∀ k j, zbit k9X7_ill k j = false → f' k j = f k j) ∧ ∀ k, zbit k9X7_ill k 0 = false → g' k = g k) :=
  xz_ct (k := 0) (mi := 133) (m1 := mX7_ill) (m2 := m2X7_ill) (mk := k9X7_ill) (xs := [x0]) (r := some (.inl (ztopI, none))) E rfl rfl (fun h => h) zcx_X7_ill_k (by decide) hd hx
set_option maxRecDepth 100000 in
theorem zcx_X8_ill_k : zxK 300 60000 233 (xz_as 94 1) (some (.inl (ztopI, none))) k9X8_ill = true := by decide +kernel
theorem zcx_X8_ill {l0 : Launch} {D : va_G} {tys : List (ClassId × FieldType)} {o : zO} {z : Nat} {b : Nat → Nat} {f : Nat → Nat → Value} {g : Nat → Nat → Int32} (E : zEnv tys) {d : Nat} (hd : d ≤ 200) {x0 : Int32} {Po : Int32 → (Nat → Nat → Int32) → Prop} (hx : ∀ J : Nat → Nat → Int64, ∃ a I' J' R', xq_D xqP d 233 (.ref 94 :: [x0].map Value.int) (xb_I f g, J, xb_R zyI f) = some (some (.int a), I', J', R') ∧ Po a I') : zCt l0 D tys o z zyI b mX8_ill 300 60000 [.ref (b 94), .int x0] f g (fun v f' g' => (∃ a I', v = some (.int a) ∧ Po a I' ∧ xb_ag I' f' g') ∧ (∀ k j, zbit k9X8_ill k j = false → f' k j = f k j) ∧ ∀ k, zbit k9X8_ill k 0 = false → g' k = g k) :=
  xz_ct (k := 94) (mi := 233) (m1 := mX8_ill) (m2 := m2X8_ill) (mk := k9X8_ill) (xs := [x0]) (r := some (.inl (ztopI, none))) E rfl rfl (fun h => h) zcx_X8_ill_k (by decide) hd hx
set_option maxRecDepth 100000 in
theorem zcx_X7_nights_k : zxK 300 60000 147 (xz_as 0 1) (some (.inl (ztopI, none))) k9X7_nights = true := by decide +kernel
theorem zcx_X7_nights {l0 : Launch} {D : va_G} {tys : List (ClassId × FieldType)} {o : zO} {z : Nat} {b : Nat → Nat} {f : Nat → Nat → Value} {g : Nat → Nat → Int32} (E : zEnv tys) {d : Nat} (hd : d ≤ 200) {x0 : Int32} {Po : Int32 → (Nat → Nat → Int32) → Prop} (hx : ∀ J : Nat → Nat → Int64, ∃ a I' J' R', xq_D xqP d 147 (.ref 0 :: [x0].map Value.int) (xb_I f g, J, xb_R zyI f) = some (some (.int a), I', J', R') ∧ Po a I') : zCt l0 D tys o z zyI b mX7_nights 300 60000 [.ref (b 0), .int x0] f g (fun v f' g' => (∃ a I', v = some (.int a) ∧ Po a I' ∧ xb_ag I' f' g') ∧ (∀ k j, zbit k9X7_nights k j = false → f' k j = f k j) ∧ ∀ k, zbit k9X7_nights k 0 = false → g' k = g k) :=
  xz_ct (k := 0) (mi := 147) (m1 := mX7_nights) (m2 := m2X7_nights) (mk := k9X7_nights) (xs := [x0]) (r := some (.inl (ztopI, none))) E rfl rfl (fun h => h) zcx_X7_nights_k (by decide) hd hx
set_option maxRecDepth 100000 in
theorem zcx_X8_nights_k : zxK 300 60000 258 (xz_as 94 1) (some (.inl (ztopI, none))) k9X8_nights = true := by decide +kernel
theorem zcx_X8_nights {l0 : Launch} {D : va_G} {tys : List (ClassId × FieldType)} {o : zO} {z : Nat} {b : Nat → Nat} {f : Nat → Nat → Value} {g : Nat → Nat → Int32} (E : zEnv tys) {d : Nat} (hd : d ≤ 200) {x0 : Int32} {Po : Int32 → (Nat → Nat → Int32) → Prop} (hx : ∀ J : Nat → Nat → Int64, ∃ a I' J' R', xq_D xqP d 258 (.ref 94 :: [x0].map Value.int) (xb_I f g, J, xb_R zyI f) = some (some (.int a), I', J', R') ∧ Po a I') : zCt l0 D tys o z zyI b mX8_nights 300 60000 [.ref (b 94), .int x0] f g (fun v f' g' => (∃ a I', v = some (.int a) ∧ Po a I' ∧ xb_ag I' f' g') ∧ (∀ k j, zbit k9X8_nights k j = false → f' k j = f k j) ∧ ∀ k, zbit k9X8_nights k 0 = false → g' k = g k) :=
  xz_ct (k := 94) (mi := 258) (m1 := mX8_nights) (m2 := m2X8_nights) (mk := k9X8_nights) (xs := [x0]) (r := some (.inl (ztopI, none))) E rfl rfl (fun h => h) zcx_X8_nights_k (by decide) hd hx
set_option maxRecDepth 100000 in
theorem zcx_X7_year_k : zxK 300 60000 181 (xz_as 0 0) (some (.inl (ztopI, none))) k9X7_year = true := by decide +kernel
theorem zcx_X7_year {l0 : Launch} {D : va_G} {tys : List (ClassId × FieldType)} {o : zO} {z : Nat} {b : Nat → Nat} {f : Nat → Nat → Value} {g : Nat → Nat → Int32} (E : zEnv tys) {d : Nat} (hd : d ≤ 200) {Po : Int32 → (Nat → Nat → Int32) → Prop} (hx : ∀ J : Nat → Nat → Int64, ∃ a I' J' R', xq_D xqP d 181 (.ref 0 :: [].map Value.int) (xb_I f g, J, xb_R zyI f) = some (some (.int a), I', J', R') ∧ Po a I') : zCt l0 D tys o z zyI b mX7_year 300 60000 [.ref (b 0)] f g (fun v f' g' => (∃ a I', v = some (.int a) ∧ Po a I' ∧ xb_ag I' f' g') ∧ (∀ k j, zbit k9X7_year k j = false → f' k j = f k j) ∧ ∀ k, zbit k9X7_year k 0 = false → g' k = g k) :=
  xz_ct (k := 0) (mi := 181) (m1 := mX7_year) (m2 := mX7_year) (mk := k9X7_year) (xs := []) (r := some (.inl (ztopI, none))) E rfl rfl (fun h => h) zcx_X7_year_k (by decide) hd hx
set_option maxRecDepth 100000 in
theorem zcx_X8_year_k : zxK 300 60000 299 (xz_as 94 0) (some (.inl (ztopI, none))) k9X8_year = true := by decide +kernel
theorem zcx_X8_year {l0 : Launch} {D : va_G} {tys : List (ClassId × FieldType)} {o : zO} {z : Nat} {b : Nat → Nat} {f : Nat → Nat → Value} {g : Nat → Nat → Int32} (E : zEnv tys) {d : Nat} (hd : d ≤ 200) {Po : Int32 → (Nat → Nat → Int32) → Prop} (hx : ∀ J : Nat → Nat → Int64, ∃ a I' J' R', xq_D xqP d 299 (.ref 94 :: [].map Value.int) (xb_I f g, J, xb_R zyI f) = some (some (.int a), I', J', R') ∧ Po a I') : zCt l0 D tys o z zyI b mX8_year 300 60000 [.ref (b 94)] f g (fun v f' g' => (∃ a I', v = some (.int a) ∧ Po a I' ∧ xb_ag I' f' g') ∧ (∀ k j, zbit k9X8_year k j = false → f' k j = f k j) ∧ ∀ k, zbit k9X8_year k 0 = false → g' k = g k) :=
  xz_ct (k := 94) (mi := 299) (m1 := mX8_year) (m2 := mX8_year) (mk := k9X8_year) (xs := []) (r := some (.inl (ztopI, none))) E rfl rfl (fun h => h) zcx_X8_year_k (by decide) hd hx
set_option maxRecDepth 100000 in
theorem zcx_X7_undo_k : zxK 300 60000 178 (xz_as 0 0) (some (.inl (ztopI, none))) k9X7_undo = true := by decide +kernel
theorem zcx_X7_undo {l0 : Launch} {D : va_G} {tys : List (ClassId × FieldType)} {o : zO} {z : Nat} {b : Nat → Nat} {f : Nat → Nat → Value} {g : Nat → Nat → Int32} (E : zEnv tys) {d : Nat} (hd : d ≤ 200) {Po : Int32 → (Nat → Nat → Int32) → Prop} (hx : ∀ J : Nat → Nat → Int64, ∃ a I' J' R', xq_D xqP d 178 (.ref 0 :: [].map Value.int) (xb_I f g, J, xb_R zyI f) = some (some (.int a), I', J', R') ∧ Po a I') : zCt l0 D tys o z zyI b mX7_undo 300 60000 [.ref (b 0)] f g (fun v f' g' => (∃ a I', v = some (.int a) ∧ Po a I' ∧ xb_ag I' f' g') ∧ (∀ k j, zbit k9X7_undo k j = false → f' k j = f k j) ∧ ∀ k, zbit k9X7_undo k 0 = false → g' k = g k) :=
  xz_ct (k := 0) (mi := 178) (m1 := mX7_undo) (m2 := mX7_undo) (mk := k9X7_undo) (xs := []) (r := some (.inl (ztopI, none))) E rfl rfl (fun h => h) zcx_X7_undo_k (by decide) hd hx
set_option maxRecDepth 100000 in
theorem zcx_X8_undo_k : zxK 300 60000 295 (xz_as 94 0) (some (.inl (ztopI, none))) k9X8_undo = true := by decide +kernel
theorem zcx_X8_undo {l0 : Launch} {D : va_G} {tys : List (ClassId × FieldType)} {o : zO} {z : Nat} {b : Nat → Nat} {f : Nat → Nat → Value} {g : Nat → Nat → Int32} (E : zEnv tys) {d : Nat} (hd : d ≤ 200) {Po : Int32 → (Nat → Nat → Int32) → Prop} (hx : ∀ J : Nat → Nat → Int64, ∃ a I' J' R', xq_D xqP d 295 (.ref 94 :: [].map Value.int) (xb_I f g, J, xb_R zyI f) = some (some (.int a), I', J', R') ∧ Po a I') : zCt l0 D tys o z zyI b mX8_undo 300 60000 [.ref (b 94)] f g (fun v f' g' => (∃ a I', v = some (.int a) ∧ Po a I' ∧ xb_ag I' f' g') ∧ (∀ k j, zbit k9X8_undo k j = false → f' k j = f k j) ∧ ∀ k, zbit k9X8_undo k 0 = false → g' k = g k) :=
  xz_ct (k := 94) (mi := 295) (m1 := mX8_undo) (m2 := m2X8_undo) (mk := k9X8_undo) (xs := []) (r := some (.inl (ztopI, none))) E rfl rfl (fun h => h) zcx_X8_undo_k (by decide) hd hx
set_option maxRecDepth 100000 in
theorem zcx_X7_gaps_k : zxK 300 60000 124 (xz_as 0 0) (some (.inl (ztopI, none))) k9X7_gaps = true := by decide +kernel
theorem zcx_X7_gaps {l0 : Launch} {D : va_G} {tys : List (ClassId × FieldType)} {o : zO} {z : Nat} {b : Nat → Nat} {f : Nat → Nat → Value} {g : Nat → Nat → Int32} (E : zEnv tys) {d : Nat} (hd : d ≤ 200) {Po : Int32 → (Nat → Nat → Int32) → Prop} (hx : ∀ J : Nat → Nat → Int64, ∃ a I' J' R', xq_D xqP d 124 (.ref 0 :: [].map Value.int) (xb_I f g, J, xb_R zyI f) = some (some (.int a), I', J', R') ∧ Po a I') : zCt l0 D tys o z zyI b mX7_gaps 300 60000 [.ref (b 0)] f g (fun v f' g' => (∃ a I', v = some (.int a) ∧ Po a I' ∧ xb_ag I' f' g') ∧ (∀ k j, zbit k9X7_gaps k j = false → f' k j = f k j) ∧ ∀ k, zbit k9X7_gaps k 0 = false → g' k = g k) :=
  xz_ct (k := 0) (mi := 124) (m1 := mX7_gaps) (m2 := mX7_gaps) (mk := k9X7_gaps) (xs := []) (r := some (.inl (ztopI, none))) E rfl rfl (fun h => h) zcx_X7_gaps_k (by decide) hd hx
set_option maxRecDepth 100000 in
theorem zcx_X8_gaps_k : zxK 300 60000 217 (xz_as 94 0) (some (.inl (ztopI, none))) k9X8_gaps = true := by decide +kernel
theorem zcx_X8_gaps {l0 : Launch} {D : va_G} {tys : List (ClassId × FieldType)} {o : zO} {z : Nat} {b : Nat → Nat} {f : Nat → Nat → Value} {g : Nat → Nat → Int32} (E : zEnv tys) {d : Nat} (hd : d ≤ 200) {Po : Int32 → (Nat → Nat → Int32) → Prop} (hx : ∀ J : Nat → Nat → Int64, ∃ a I' J' R', xq_D xqP d 217 (.ref 94 :: [].map Value.int) (xb_I f g, J, xb_R zyI f) = some (some (.int a), I', J', R') ∧ Po a I') : zCt l0 D tys o z zyI b mX8_gaps 300 60000 [.ref (b 94)] f g (fun v f' g' => (∃ a I', v = some (.int a) ∧ Po a I' ∧ xb_ag I' f' g') ∧ (∀ k j, zbit k9X8_gaps k j = false → f' k j = f k j) ∧ ∀ k, zbit k9X8_gaps k 0 = false → g' k = g k) :=
  xz_ct (k := 94) (mi := 217) (m1 := mX8_gaps) (m2 := mX8_gaps) (mk := k9X8_gaps) (xs := []) (r := some (.inl (ztopI, none))) E rfl rfl (fun h => h) zcx_X8_gaps_k (by decide) hd hx
set_option maxRecDepth 100000 in
theorem zcx_X7_takes_k : zxK 300 60000 172 (xz_as 0 0) (some (.inl (ztopI, none))) k9X7_takes = true := by decide +kernel
theorem zcx_X7_takes {l0 : Launch} {D : va_G} {tys : List (ClassId × FieldType)} {o : zO} {z : Nat} {b : Nat → Nat} {f : Nat → Nat → Value} {g : Nat → Nat → Int32} (E : zEnv tys) {d : Nat} (hd : d ≤ 200) {Po : Int32 → (Nat → Nat → Int32) → Prop} (hx : ∀ J : Nat → Nat → Int64, ∃ a I' J' R', xq_D xqP d 172 (.ref 0 :: [].map Value.int) (xb_I f g, J, xb_R zyI f) = some (some (.int a), I', J', R') ∧ Po a I') : zCt l0 D tys o z zyI b mX7_takes 300 60000 [.ref (b 0)] f g (fun v f' g' => (∃ a I', v = some (.int a) ∧ Po a I' ∧ xb_ag I' f' g') ∧ (∀ k j, zbit k9X7_takes k j = false → f' k j = f k j) ∧ ∀ k, zbit k9X7_takes k 0 = false → g' k = g k) :=
  xz_ct (k := 0) (mi := 172) (m1 := mX7_takes) (m2 := mX7_takes) (mk := k9X7_takes) (xs := []) (r := some (.inl (ztopI, none))) E rfl rfl (fun h => h) zcx_X7_takes_k (by decide) hd hx
set_option maxRecDepth 100000 in
theorem zcx_X8_takes_k : zxK 300 60000 286 (xz_as 94 0) (some (.inl (ztopI, none))) k9X8_takes = true := by decide +kernel
theorem zcx_X8_takes {l0 : Launch} {D : va_G} {tys : List (ClassId × FieldType)} {o : zO} {z : Nat} {b : Nat → Nat} {f : Nat → Nat → Value} {g : Nat → Nat → Int32} (E : zEnv tys) {d : Nat} (hd : d ≤ 200) {Po : Int32 → (Nat → Nat → Int32) → Prop} (hx : ∀ J : Nat → Nat → Int64, ∃ a I' J' R', xq_D xqP d 286 (.ref 94 :: [].map Value.int) (xb_I f g, J, xb_R zyI f) = some (some (.int a), I', J', R') ∧ Po a I') : zCt l0 D tys o z zyI b mX8_takes 300 60000 [.ref (b 94)] f g (fun v f' g' => (∃ a I', v = some (.int a) ∧ Po a I' ∧ xb_ag I' f' g') ∧ (∀ k j, zbit k9X8_takes k j = false → f' k j = f k j) ∧ ∀ k, zbit k9X8_takes k 0 = false → g' k = g k) :=
  xz_ct (k := 94) (mi := 286) (m1 := mX8_takes) (m2 := mX8_takes) (mk := k9X8_takes) (xs := []) (r := some (.inl (ztopI, none))) E rfl rfl (fun h => h) zcx_X8_takes_k (by decide) hd hx
set_option maxRecDepth 100000 in
theorem zcx_X7_law_k : zxK 300 60000 141 (xz_as 0 0) (some (.inl (ztopI, none))) k9X7_law = true := by decide +kernel
theorem zcx_X7_law {l0 : Launch} {D : va_G} {tys : List (ClassId × FieldType)} {o : zO} {z : Nat} {b : Nat → Nat} {f : Nat → Nat → Value} {g : Nat → Nat → Int32} (E : zEnv tys) {d : Nat} (hd : d ≤ 200) {Po : Int32 → (Nat → Nat → Int32) → Prop} (hx : ∀ J : Nat → Nat → Int64, ∃ a I' J' R', xq_D xqP d 141 (.ref 0 :: [].map Value.int) (xb_I f g, J, xb_R zyI f) = some (some (.int a), I', J', R') ∧ Po a I') : zCt l0 D tys o z zyI b mX7_law 300 60000 [.ref (b 0)] f g (fun v f' g' => (∃ a I', v = some (.int a) ∧ Po a I' ∧ xb_ag I' f' g') ∧ (∀ k j, zbit k9X7_law k j = false → f' k j = f k j) ∧ ∀ k, zbit k9X7_law k 0 = false → g' k = g k) :=
  xz_ct (k := 0) (mi := 141) (m1 := mX7_law) (m2 := mX7_law) (mk := k9X7_law) (xs := []) (r := some (.inl (ztopI, none))) E rfl rfl (fun h => h) zcx_X7_law_k (by decide) hd hx
set_option maxRecDepth 100000 in
theorem zcx_X8_law_k : zxK 300 60000 245 (xz_as 94 0) (some (.inl (ztopI, none))) k9X8_law = true := by decide +kernel
theorem zcx_X8_law {l0 : Launch} {D : va_G} {tys : List (ClassId × FieldType)} {o : zO} {z : Nat} {b : Nat → Nat} {f : Nat → Nat → Value} {g : Nat → Nat → Int32} (E : zEnv tys) {d : Nat} (hd : d ≤ 200) {Po : Int32 → (Nat → Nat → Int32) → Prop} (hx : ∀ J : Nat → Nat → Int64, ∃ a I' J' R', xq_D xqP d 245 (.ref 94 :: [].map Value.int) (xb_I f g, J, xb_R zyI f) = some (some (.int a), I', J', R') ∧ Po a I') : zCt l0 D tys o z zyI b mX8_law 300 60000 [.ref (b 94)] f g (fun v f' g' => (∃ a I', v = some (.int a) ∧ Po a I' ∧ xb_ag I' f' g') ∧ (∀ k j, zbit k9X8_law k j = false → f' k j = f k j) ∧ ∀ k, zbit k9X8_law k 0 = false → g' k = g k) :=
  xz_ct (k := 94) (mi := 245) (m1 := mX8_law) (m2 := m2X8_law) (mk := k9X8_law) (xs := []) (r := some (.inl (ztopI, none))) E rfl rfl (fun h => h) zcx_X8_law_k (by decide) hd hx
set_option maxRecDepth 100000 in
theorem zcx_X7_keep_k : zxK 300 60000 138 (xz_as 0 1) (some (.inl (ztopI, none))) k9X7_keep = true := by decide +kernel
theorem zcx_X7_keep {l0 : Launch} {D : va_G} {tys : List (ClassId × FieldType)} {o : zO} {z : Nat} {b : Nat → Nat} {f : Nat → Nat → Value} {g : Nat → Nat → Int32} (E : zEnv tys) {d : Nat} (hd : d ≤ 200) {x0 : Int32} {Po : Int32 → (Nat → Nat → Int32) → Prop} (hx : ∀ J : Nat → Nat → Int64, ∃ a I' J' R', xq_D xqP d 138 (.ref 0 :: [x0].map Value.int) (xb_I f g, J, xb_R zyI f) = some (some (.int a), I', J', R') ∧ Po a I') : zCt l0 D tys o z zyI b mX7_keep 300 60000 [.ref (b 0), .int x0] f g (fun v f' g' => (∃ a I', v = some (.int a) ∧ Po a I' ∧ xb_ag I' f' g') ∧ (∀ k j, zbit k9X7_keep k j = false → f' k j = f k j) ∧ ∀ k, zbit k9X7_keep k 0 = false → g' k = g k) :=
  xz_ct (k := 0) (mi := 138) (m1 := mX7_keep) (m2 := m2X7_keep) (mk := k9X7_keep) (xs := [x0]) (r := some (.inl (ztopI, none))) E rfl rfl (fun h => h) zcx_X7_keep_k (by decide) hd hx
set_option maxRecDepth 100000 in
theorem zcx_X8_keep_k : zxK 300 60000 241 (xz_as 94 1) (some (.inl (ztopI, none))) k9X8_keep = true := by decide +kernel
theorem zcx_X8_keep {l0 : Launch} {D : va_G} {tys : List (ClassId × FieldType)} {o : zO} {z : Nat} {b : Nat → Nat} {f : Nat → Nat → Value} {g : Nat → Nat → Int32} (E : zEnv tys) {d : Nat} (hd : d ≤ 200) {x0 : Int32} {Po : Int32 → (Nat → Nat → Int32) → Prop} (hx : ∀ J : Nat → Nat → Int64, ∃ a I' J' R', xq_D xqP d 241 (.ref 94 :: [x0].map Value.int) (xb_I f g, J, xb_R zyI f) = some (some (.int a), I', J', R') ∧ Po a I') : zCt l0 D tys o z zyI b mX8_keep 300 60000 [.ref (b 94), .int x0] f g (fun v f' g' => (∃ a I', v = some (.int a) ∧ Po a I' ∧ xb_ag I' f' g') ∧ (∀ k j, zbit k9X8_keep k j = false → f' k j = f k j) ∧ ∀ k, zbit k9X8_keep k 0 = false → g' k = g k) :=
  xz_ct (k := 94) (mi := 241) (m1 := mX8_keep) (m2 := m2X8_keep) (mk := k9X8_keep) (xs := [x0]) (r := some (.inl (ztopI, none))) E rfl rfl (fun h => h) zcx_X8_keep_k (by decide) hd hx
set_option maxRecDepth 100000 in
theorem zcx_X7_again_k : zxK 300 60000 103 (xz_as 0 1) (some (.inl (ztopI, none))) k9X7_again = true := by decide +kernel
theorem zcx_X7_again {l0 : Launch} {D : va_G} {tys : List (ClassId × FieldType)} {o : zO} {z : Nat} {b : Nat → Nat} {f : Nat → Nat → Value} {g : Nat → Nat → Int32} (E : zEnv tys) {d : Nat} (hd : d ≤ 200) {x0 : Int32} {Po : Int32 → (Nat → Nat → Int32) → Prop} (hx : ∀ J : Nat → Nat → Int64, ∃ a I' J' R', xq_D xqP d 103 (.ref 0 :: [x0].map Value.int) (xb_I f g, J, xb_R zyI f) = some (some (.int a), I', J', R') ∧ Po a I') : zCt l0 D tys o z zyI b mX7_again 300 60000 [.ref (b 0), .int x0] f g (fun v f' g' => (∃ a I', v = some (.int a) ∧ Po a I' ∧ xb_ag I' f' g') ∧ (∀ k j, zbit k9X7_again k j = false → f' k j = f k j) ∧ ∀ k, zbit k9X7_again k 0 = false → g' k = g k) :=
  xz_ct (k := 0) (mi := 103) (m1 := mX7_again) (m2 := m2X7_again) (mk := k9X7_again) (xs := [x0]) (r := some (.inl (ztopI, none))) E rfl rfl (fun h => h) zcx_X7_again_k (by decide) hd hx
set_option maxRecDepth 100000 in
theorem zcx_X8_again_k : zxK 300 60000 187 (xz_as 94 1) (some (.inl (ztopI, none))) k9X8_again = true := by decide +kernel
theorem zcx_X8_again {l0 : Launch} {D : va_G} {tys : List (ClassId × FieldType)} {o : zO} {z : Nat} {b : Nat → Nat} {f : Nat → Nat → Value} {g : Nat → Nat → Int32} (E : zEnv tys) {d : Nat} (hd : d ≤ 200) {x0 : Int32} {Po : Int32 → (Nat → Nat → Int32) → Prop} (hx : ∀ J : Nat → Nat → Int64, ∃ a I' J' R', xq_D xqP d 187 (.ref 94 :: [x0].map Value.int) (xb_I f g, J, xb_R zyI f) = some (some (.int a), I', J', R') ∧ Po a I') : zCt l0 D tys o z zyI b mX8_again 300 60000 [.ref (b 94), .int x0] f g (fun v f' g' => (∃ a I', v = some (.int a) ∧ Po a I' ∧ xb_ag I' f' g') ∧ (∀ k j, zbit k9X8_again k j = false → f' k j = f k j) ∧ ∀ k, zbit k9X8_again k 0 = false → g' k = g k) :=
  xz_ct (k := 94) (mi := 187) (m1 := mX8_again) (m2 := m2X8_again) (mk := k9X8_again) (xs := [x0]) (r := some (.inl (ztopI, none))) E rfl rfl (fun h => h) zcx_X8_again_k (by decide) hd hx
section ZRNX
variable {p : Program} {l : Launch} {e : Env} {s : State} {m : MethodId} {below : List Frame} {meth : Method} {c0 : Code} {b : Nat} {D : va_G} {tys : List (ClassId × FieldType)} {o : zO} {z : Nat} {nm : String} {L : Nat} {xs : Nat → Int32}
set_option maxHeartbeats 8000000 in
theorem zsx_rule (E : zEnv tys) (C : zCx p room_1 s m #[Value.ref b] meth c0 D vwCl tys z (zXX o z) zTs RL cL_law 8 nm) (hX : va_X o.1 L xs s s.heap) (hbl : o.1 < s.heap.size) (hbA : ¬ zA z o.1) (hL : L ≤ 2560) {b1 b2 : zI} : zSpec p l e s m b below meth c0 D tys o z L xs zyI zqJ (.ofNat 3, .ofNat 3) b1 b2 := by
  intro i K S g ls H locs ws hg h5 hi hK hS hj hm1 hm2 vst S0 hR hn
  obtain ⟨⟨xj, rfl, hxj⟩, hlv, hv⟩ := zop9 hg S0
  have hP : yF (xb_I (zwV ws) (zwA ws)) := zqP_of hR
  generalize hfe : zwV ws = f at *
  generalize hge : zwA ws = g0 at *
  generalize hbe : zwB ws = bb at *
  have hB := yBG_of (xz_bd hv)
  have hxj2 : xj.toInt = 3 := by
    obtain ⟨q1, q2⟩ := hxj
    have q1 : (3 : Int) ≤ xj.toInt := q1
    have q2 : xj.toInt ≤ (3 : Int) := q2
    omega
  refine lv_tableIn C.1 C.2.1 (zdaP zDL0 39 (by decide) rfl rfl) (by rw [hxj2]; decide) (by rw [hxj2]; decide) (off := 276) (by rw [hxj2]; rfl) (tgt := 315) (by decide) ?_
  refine lv_aload_n C.1 C.2.1 (zdaP zDL1 315 (by decide) rfl rfl) rfl (lv_at hlv 2 rfl) ?_
  refine zV_callVP C (zcx_rule E (d := 8) (by decide) (fun J => (yRdR_F (yruleF hP hB.1)) J _ xz_Rok)) rfl rfl (by decide) (by decide) (show vwCl[7]? = some (RX7, TX7, 16) from rfl) zw532 zw529 zw530 zw531 zw1 (n := 0) (by decide +kernel) (zdaP zDL1 316 (by decide) rfl rfl) rfl zvk0 (show 0 < 126 by decide) hv hlv.1 (by show 0 ≤ 8; decide) (by show 0 + K ≤ 601024; omega) (by show 0 + S ≤ 7293034; omega) (fun v b9 f9 g9 ws H locs hp hv => ?_)
  obtain ⟨a1, I1, rfl, hPo, hb0, hb94, hb125, hag⟩ := hp
  rw [← hb0, ← hb94, ← hb125] at hlv
  have hq := hPo _ (xz_e hv hag) (yBG_of (xz_bd hv)).1
  refine lv_pop C.1 C.2.1 (zdaP zDL1 319 (by decide) rfl rfl) rfl ?_
  refine lv_aload_n C.1 C.2.1 (zdaP zDL1 320 (by decide) rfl rfl) rfl (lv_at hlv 3 rfl) ?_
  refine zV_callV C (zcx_X8_rule E (d := 173) (by decide) (Po := fun b2 I2 => (False → a1 = b2) ∧ yF I2) (fun J => hq J _ xz_Rok)) rfl rfl (by decide) (by decide) (show vwCl[8]? = some (RX8, TX8, 51) from rfl) zw1380 zw1377 zw1378 zw1379 zw16 (n := 0) (by decide +kernel) (zdaP zDL1 321 (by decide) rfl rfl) rfl zvk94 (show 94 < 126 by decide) hv hlv.1 (by show 0 ≤ 8; decide) (by show 0 + K ≤ 601024; omega) (by show 0 + S ≤ 7293034; omega) (fun v f9 g9 ws H locs hp hv => ?_)
  obtain ⟨a2, I2, rfl, ⟨hab, hP2⟩, hag2⟩ := hp
  have hP3 := yF_eq (xz_e hv hag2) hP2
  refine lv_pop C.1 C.2.1 (zdaP zDL1 324 (by decide) rfl rfl) rfl ?_
  refine lv_goto C.1 C.2.1 (zdaP zDL1 325 (by decide) rfl rfl) (tgt := 1436) (by decide) ?_
  refine lv_iinc C.1 C.2.1 (zdaP zDL5 1436 (by decide) rfl rfl) hlv (k := 0) rfl rfl (by decide) (lv' := [(4, .int ((Int32.ofNat i) + Int32.ofInt 5)), (0, .ref o.1), (1, .ref (b9 0)), (2, .ref (b9 94)), (3, .ref (b9 125))]) rfl (fun ls hlv => ?_)
  rw [zinc5 hi] at hlv
  refine lv_goto C.1 C.2.1 (zdaP zDL5 1439 (by decide) rfl rfl) (tgt := 23) (by decide) ?_
  exact zcl9 (by omega) hn hlv hv (zqJ_of hv hP3)
set_option maxHeartbeats 8000000 in
theorem zsx_sign (E : zEnv tys) (C : zCx p room_1 s m #[Value.ref b] meth c0 D vwCl tys z (zXX o z) zTs RL cL_law 8 nm) (hX : va_X o.1 L xs s s.heap) (hbl : o.1 < s.heap.size) (hbA : ¬ zA z o.1) (hL : L ≤ 2560) {b1 b2 : zI} : zSpec p l e s m b below meth c0 D tys o z L xs zyI zqJ (.ofNat 0, .ofNat 0) b1 b2 := by
  intro i K S g ls H locs ws hg h5 hi hK hS hj hm1 hm2 vst S0 hR hn
  obtain ⟨⟨xj, rfl, hxj⟩, hlv, hv⟩ := zop9 hg S0
  have hP : yF (xb_I (zwV ws) (zwA ws)) := zqP_of hR
  generalize hfe : zwV ws = f at *
  generalize hge : zwA ws = g0 at *
  generalize hbe : zwB ws = bb at *
  have hB := yBG_of (xz_bd hv)
  have hxj2 : xj.toInt = 0 := by
    obtain ⟨q1, q2⟩ := hxj
    have q1 : (0 : Int) ≤ xj.toInt := q1
    have q2 : xj.toInt ≤ (0 : Int) := q2
    omega
  refine lv_tableIn C.1 C.2.1 (zdaP zDL0 39 (by decide) rfl rfl) (by rw [hxj2]; decide) (by rw [hxj2]; decide) (off := 213) (by rw [hxj2]; rfl) (tgt := 252) (by decide) ?_
  refine lv_aload_n C.1 C.2.1 (zdaP zDL0 252 (by decide) rfl rfl) rfl (lv_at hlv 2 rfl) ?_
  refine lv_aload_n C.1 C.2.1 (zdaP zDL0 253 (by decide) rfl rfl) rfl (lv_at hlv 1 rfl) ?_
  refine lv_iload C.1 C.2.1 (zdaP zDL0 254 (by decide) rfl rfl) (lv_at hlv 0 rfl) ?_
  refine lv_iconst C.1 C.2.1 (zdaP zDL1 256 (by decide) rfl rfl) rfl ?_
  refine lv_iadd C.1 C.2.1 (zdaP zDL1 257 (by decide) rfl rfl) ?_
  refine va_sld C.1 C.2.1 hX hbl hbA hv.2.2.2.1 (vp_in_iff.mpr ⟨by rw [show Int32.ofInt 1 = Int32.ofInt ((1 : Nat) : Int) by decide, zsc1 hi (by decide)]; omega, by rw [show Int32.ofInt 1 = Int32.ofInt ((1 : Nat) : Int) by decide, zsc1 hi (by decide)]; omega⟩) (zdaP zDL1 258 (by decide) rfl rfl) ?_
  have hvA := hv
  refine zV_callV C (zcx_X7_sign E (d := 2) (by decide) (x0 := xs (Int32.ofNat i + Int32.ofInt 1).toNatClampNeg) (fun J => (yRm_F (yRm_B (B' := yBG) (fun _ h => h.1) (ysignF (I := xb_I f g0) (x := xs (Int32.ofNat i + Int32.ofInt 1).toNatClampNeg) hP hB.1))) J _ xz_Rok)) rfl rfl (by decide) (by decide) (show vwCl[7]? = some (RX7, TX7, 16) from rfl) zw475 zw472 zw473 zw474 zw1 (n := 1) (by decide +kernel) (zdaP zDL1 259 (by decide) rfl rfl) rfl zvk0 (show 0 < 126 by decide) hv hlv.1 (by show 0 ≤ 8; decide) (by show 0 + K ≤ 601024; omega) (by show 0 + S ≤ 7293034; omega) (fun v f9 g9 ws H locs hp hv => ?_)
  obtain ⟨⟨a1, I1, rfl, hPo, hag⟩, h4a, h5a⟩ := hp
  have hq := hPo _ (xz_e hv hag) (xm_fr hvA hv h4a h5a) (yBG_of (xz_bd hv))
  have hvB := hv
  refine lv_pop C.1 C.2.1 (zdaP zDL1 262 (by decide) rfl rfl) rfl ?_
  refine lv_aload_n C.1 C.2.1 (zdaP zDL1 263 (by decide) rfl rfl) rfl (lv_at hlv 3 rfl) ?_
  refine lv_aload_n C.1 C.2.1 (zdaP zDL1 264 (by decide) rfl rfl) rfl (lv_at hlv 1 rfl) ?_
  refine lv_iload C.1 C.2.1 (zdaP zDL1 265 (by decide) rfl rfl) (lv_at hlv 0 rfl) ?_
  refine lv_iconst C.1 C.2.1 (zdaP zDL1 267 (by decide) rfl rfl) rfl ?_
  refine lv_iadd C.1 C.2.1 (zdaP zDL1 268 (by decide) rfl rfl) ?_
  refine va_sld C.1 C.2.1 hX hbl hbA hv.2.2.2.1 (vp_in_iff.mpr ⟨by rw [show Int32.ofInt 1 = Int32.ofInt ((1 : Nat) : Int) by decide, zsc1 hi (by decide)]; omega, by rw [show Int32.ofInt 1 = Int32.ofInt ((1 : Nat) : Int) by decide, zsc1 hi (by decide)]; omega⟩) (zdaP zDL1 269 (by decide) rfl rfl) ?_
  refine zV_callV C (zcx_X8_sign E (d := 1) (by decide) (x0 := xs (Int32.ofNat i + Int32.ofInt 1).toNatClampNeg) (fun J => hq J _ xz_Rok)) rfl rfl (by decide) (by decide) (show vwCl[8]? = some (RX8, TX8, 51) from rfl) zw1329 zw1326 zw1327 zw1328 zw16 (n := 1) (by decide +kernel) (zdaP zDL1 270 (by decide) rfl rfl) rfl zvk94 (show 94 < 126 by decide) hv hlv.1 (by show 0 ≤ 8; decide) (by show 0 + K ≤ 601024; omega) (by show 0 + S ≤ 7293034; omega) (fun v f9 g9 ws H locs hp hv => ?_)
  obtain ⟨⟨a2, I2, rfl, ⟨hab, hP2⟩, hag2⟩, h4b, h5b⟩ := hp
  have hP3 := hP2 _ (xz_e hv hag2) (xm_fr hvB hv h4b h5b) (yBG_of (xz_bd hv))
  refine lv_pop C.1 C.2.1 (zdaP zDL1 273 (by decide) rfl rfl) rfl ?_
  refine lv_goto C.1 C.2.1 (zdaP zDL1 274 (by decide) rfl rfl) (tgt := 1436) (by decide) ?_
  refine lv_iinc C.1 C.2.1 (zdaP zDL5 1436 (by decide) rfl rfl) hlv (k := 0) rfl rfl (by decide) (lv' := [(4, .int ((Int32.ofNat i) + Int32.ofInt 5)), (0, .ref o.1), (1, .ref (bb 0)), (2, .ref (bb 94)), (3, .ref (bb 125))]) rfl (fun ls hlv => ?_)
  rw [zinc5 hi] at hlv
  refine lv_goto C.1 C.2.1 (zdaP zDL5 1439 (by decide) rfl rfl) (tgt := 23) (by decide) ?_
  exact zcl9 (by omega) hn hlv hv (zqJ_of hv hP3)
set_option maxHeartbeats 8000000 in
theorem zsx_end (E : zEnv tys) (C : zCx p room_1 s m #[Value.ref b] meth c0 D vwCl tys z (zXX o z) zTs RL cL_law 8 nm) (hX : va_X o.1 L xs s s.heap) (hbl : o.1 < s.heap.size) (hbA : ¬ zA z o.1) (hL : L ≤ 2560) {b1 b2 : zI} : zSpec p l e s m b below meth c0 D tys o z L xs zyI zqJ (.ofNat 1, .ofNat 1) b1 b2 := by
  intro i K S g ls H locs ws hg h5 hi hK hS hj hm1 hm2 vst S0 hR hn
  obtain ⟨⟨xj, rfl, hxj⟩, hlv, hv⟩ := zop9 hg S0
  have hP : yF (xb_I (zwV ws) (zwA ws)) := zqP_of hR
  generalize hfe : zwV ws = f at *
  generalize hge : zwA ws = g0 at *
  generalize hbe : zwB ws = bb at *
  have hB := yBG_of (xz_bd hv)
  have hxj2 : xj.toInt = 1 := by
    obtain ⟨q1, q2⟩ := hxj
    have q1 : (1 : Int) ≤ xj.toInt := q1
    have q2 : xj.toInt ≤ (1 : Int) := q2
    omega
  refine lv_tableIn C.1 C.2.1 (zdaP zDL0 39 (by decide) rfl rfl) (by rw [hxj2]; decide) (by rw [hxj2]; decide) (off := 238) (by rw [hxj2]; rfl) (tgt := 277) (by decide) ?_
  refine lv_aload_n C.1 C.2.1 (zdaP zDL1 277 (by decide) rfl rfl) rfl (lv_at hlv 2 rfl) ?_
  refine lv_aload_n C.1 C.2.1 (zdaP zDL1 278 (by decide) rfl rfl) rfl (lv_at hlv 1 rfl) ?_
  refine lv_iload C.1 C.2.1 (zdaP zDL1 279 (by decide) rfl rfl) (lv_at hlv 0 rfl) ?_
  refine lv_iconst C.1 C.2.1 (zdaP zDL1 281 (by decide) rfl rfl) rfl ?_
  refine lv_iadd C.1 C.2.1 (zdaP zDL1 282 (by decide) rfl rfl) ?_
  refine va_sld C.1 C.2.1 hX hbl hbA hv.2.2.2.1 (vp_in_iff.mpr ⟨by rw [show Int32.ofInt 1 = Int32.ofInt ((1 : Nat) : Int) by decide, zsc1 hi (by decide)]; omega, by rw [show Int32.ofInt 1 = Int32.ofInt ((1 : Nat) : Int) by decide, zsc1 hi (by decide)]; omega⟩) (zdaP zDL1 283 (by decide) rfl rfl) ?_
  have hvA := hv
  refine zV_callV C (zcx_X7_end E (d := 2) (by decide) (x0 := xs (Int32.ofNat i + Int32.ofInt 1).toNatClampNeg) (fun J => (yRm_F (yRm_B (B' := yBG) (fun _ h => h.1) (yendF (I := xb_I f g0) (x := xs (Int32.ofNat i + Int32.ofInt 1).toNatClampNeg) hP hB.1))) J _ xz_Rok)) rfl rfl (by decide) (by decide) (show vwCl[7]? = some (RX7, TX7, 16) from rfl) zw483 zw480 zw481 zw482 zw1 (n := 1) (by decide +kernel) (zdaP zDL1 284 (by decide) rfl rfl) rfl zvk0 (show 0 < 126 by decide) hv hlv.1 (by show 0 ≤ 8; decide) (by show 0 + K ≤ 601024; omega) (by show 0 + S ≤ 7293034; omega) (fun v f9 g9 ws H locs hp hv => ?_)
  obtain ⟨⟨a1, I1, rfl, hPo, hag⟩, h4a, h5a⟩ := hp
  have hq := hPo _ (xz_e hv hag) (xm_fr hvA hv h4a h5a) (yBG_of (xz_bd hv))
  have hvB := hv
  refine lv_pop C.1 C.2.1 (zdaP zDL1 287 (by decide) rfl rfl) rfl ?_
  refine lv_aload_n C.1 C.2.1 (zdaP zDL1 288 (by decide) rfl rfl) rfl (lv_at hlv 3 rfl) ?_
  refine lv_aload_n C.1 C.2.1 (zdaP zDL1 289 (by decide) rfl rfl) rfl (lv_at hlv 1 rfl) ?_
  refine lv_iload C.1 C.2.1 (zdaP zDL1 290 (by decide) rfl rfl) (lv_at hlv 0 rfl) ?_
  refine lv_iconst C.1 C.2.1 (zdaP zDL1 292 (by decide) rfl rfl) rfl ?_
  refine lv_iadd C.1 C.2.1 (zdaP zDL1 293 (by decide) rfl rfl) ?_
  refine va_sld C.1 C.2.1 hX hbl hbA hv.2.2.2.1 (vp_in_iff.mpr ⟨by rw [show Int32.ofInt 1 = Int32.ofInt ((1 : Nat) : Int) by decide, zsc1 hi (by decide)]; omega, by rw [show Int32.ofInt 1 = Int32.ofInt ((1 : Nat) : Int) by decide, zsc1 hi (by decide)]; omega⟩) (zdaP zDL1 294 (by decide) rfl rfl) ?_
  refine zV_callV C (zcx_X8_end E (d := 2) (by decide) (x0 := xs (Int32.ofNat i + Int32.ofInt 1).toNatClampNeg) (fun J => hq J _ xz_Rok)) rfl rfl (by decide) (by decide) (show vwCl[8]? = some (RX8, TX8, 51) from rfl) zw1333 zw1330 zw1331 zw1332 zw16 (n := 1) (by decide +kernel) (zdaP zDL1 295 (by decide) rfl rfl) rfl zvk94 (show 94 < 126 by decide) hv hlv.1 (by show 0 ≤ 8; decide) (by show 0 + K ≤ 601024; omega) (by show 0 + S ≤ 7293034; omega) (fun v f9 g9 ws H locs hp hv => ?_)
  obtain ⟨⟨a2, I2, rfl, ⟨hab, hP2⟩, hag2⟩, h4b, h5b⟩ := hp
  have hP3 := hP2 _ (xz_e hv hag2) (xm_fr hvB hv h4b h5b) (yBG_of (xz_bd hv))
  refine lv_pop C.1 C.2.1 (zdaP zDL1 298 (by decide) rfl rfl) rfl ?_
  refine lv_goto C.1 C.2.1 (zdaP zDL1 299 (by decide) rfl rfl) (tgt := 1436) (by decide) ?_
  refine lv_iinc C.1 C.2.1 (zdaP zDL5 1436 (by decide) rfl rfl) hlv (k := 0) rfl rfl (by decide) (lv' := [(4, .int ((Int32.ofNat i) + Int32.ofInt 5)), (0, .ref o.1), (1, .ref (bb 0)), (2, .ref (bb 94)), (3, .ref (bb 125))]) rfl (fun ls hlv => ?_)
  rw [zinc5 hi] at hlv
  refine lv_goto C.1 C.2.1 (zdaP zDL5 1439 (by decide) rfl rfl) (tgt := 23) (by decide) ?_
  exact zcl9 (by omega) hn hlv hv (zqJ_of hv hP3)
set_option maxHeartbeats 8000000 in
theorem zsx_riders (E : zEnv tys) (C : zCx p room_1 s m #[Value.ref b] meth c0 D vwCl tys z (zXX o z) zTs RL cL_law 8 nm) (hX : va_X o.1 L xs s s.heap) (hbl : o.1 < s.heap.size) (hbA : ¬ zA z o.1) (hL : L ≤ 2560) {b1 b2 : zI} : zSpec p l e s m b below meth c0 D tys o z L xs zyI zqJ (.ofNat 2, .ofNat 2) b1 b2 := by
  intro i K S g ls H locs ws hg h5 hi hK hS hj hm1 hm2 vst S0 hR hn
  obtain ⟨⟨xj, rfl, hxj⟩, hlv, hv⟩ := zop9 hg S0
  have hP : yF (xb_I (zwV ws) (zwA ws)) := zqP_of hR
  generalize hfe : zwV ws = f at *
  generalize hge : zwA ws = g0 at *
  generalize hbe : zwB ws = bb at *
  have hB := yBG_of (xz_bd hv)
  have hxj2 : xj.toInt = 2 := by
    obtain ⟨q1, q2⟩ := hxj
    have q1 : (2 : Int) ≤ xj.toInt := q1
    have q2 : xj.toInt ≤ (2 : Int) := q2
    omega
  refine lv_tableIn C.1 C.2.1 (zdaP zDL0 39 (by decide) rfl rfl) (by rw [hxj2]; decide) (by rw [hxj2]; decide) (off := 263) (by rw [hxj2]; rfl) (tgt := 302) (by decide) ?_
  refine lv_aload_n C.1 C.2.1 (zdaP zDL1 302 (by decide) rfl rfl) rfl (lv_at hlv 2 rfl) ?_
  have hvA := hv
  refine zV_callV C (zcx_X7_riders E (d := 4) (by decide) (fun J => (yRm_F (yRm_B (B' := yBG) (fun _ h => h.1) (yridersF (I := xb_I f g0) hP hB.1))) J _ xz_Rok)) rfl rfl (by decide) (by decide) (show vwCl[7]? = some (RX7, TX7, 16) from rfl) zw491 zw488 zw489 zw490 zw1 (n := 0) (by decide +kernel) (zdaP zDL1 303 (by decide) rfl rfl) rfl zvk0 (show 0 < 126 by decide) hv hlv.1 (by show 0 ≤ 8; decide) (by show 0 + K ≤ 601024; omega) (by show 0 + S ≤ 7293034; omega) (fun v f9 g9 ws H locs hp hv => ?_)
  obtain ⟨⟨a1, I1, rfl, hPo, hag⟩, h4a, h5a⟩ := hp
  have hq := hPo _ (xz_e hv hag) (xm_fr hvA hv h4a h5a) (yBG_of (xz_bd hv))
  have hvB := hv
  refine lv_pop C.1 C.2.1 (zdaP zDL1 306 (by decide) rfl rfl) rfl ?_
  refine lv_aload_n C.1 C.2.1 (zdaP zDL1 307 (by decide) rfl rfl) rfl (lv_at hlv 3 rfl) ?_
  refine zV_callV C (zcx_X8_riders E (d := 6) (by decide) (fun J => hq J _ xz_Rok)) rfl rfl (by decide) (by decide) (show vwCl[8]? = some (RX8, TX8, 51) from rfl) zw1340 zw1337 zw1338 zw1339 zw16 (n := 0) (by decide +kernel) (zdaP zDL1 308 (by decide) rfl rfl) rfl zvk94 (show 94 < 126 by decide) hv hlv.1 (by show 0 ≤ 8; decide) (by show 0 + K ≤ 601024; omega) (by show 0 + S ≤ 7293034; omega) (fun v f9 g9 ws H locs hp hv => ?_)
  obtain ⟨⟨a2, I2, rfl, ⟨hab, hP2⟩, hag2⟩, h4b, h5b⟩ := hp
  have hP3 := hP2 _ (xz_e hv hag2) (xm_fr hvB hv h4b h5b) (yBG_of (xz_bd hv))
  refine lv_pop C.1 C.2.1 (zdaP zDL1 311 (by decide) rfl rfl) rfl ?_
  refine lv_goto C.1 C.2.1 (zdaP zDL1 312 (by decide) rfl rfl) (tgt := 1436) (by decide) ?_
  refine lv_iinc C.1 C.2.1 (zdaP zDL5 1436 (by decide) rfl rfl) hlv (k := 0) rfl rfl (by decide) (lv' := [(4, .int ((Int32.ofNat i) + Int32.ofInt 5)), (0, .ref o.1), (1, .ref (bb 0)), (2, .ref (bb 94)), (3, .ref (bb 125))]) rfl (fun ls hlv => ?_)
  rw [zinc5 hi] at hlv
  refine lv_goto C.1 C.2.1 (zdaP zDL5 1439 (by decide) rfl rfl) (tgt := 23) (by decide) ?_
  exact zcl9 (by omega) hn hlv hv (zqJ_of hv hP3)
set_option maxHeartbeats 8000000 in
theorem zsx_set (E : zEnv tys) (C : zCx p room_1 s m #[Value.ref b] meth c0 D vwCl tys z (zXX o z) zTs RL cL_law 8 nm) (hX : va_X o.1 L xs s s.heap) (hbl : o.1 < s.heap.size) (hbA : ¬ zA z o.1) (hL : L ≤ 2560) {b1 b2 : zI} : zSpec p l e s m b below meth c0 D tys o z L xs zyI zqJ (.ofNat 6, .ofNat 6) b1 b2 := by
  intro i K S g ls H locs ws hg h5 hi hK hS hj hm1 hm2 vst S0 hR hn
  obtain ⟨⟨xj, rfl, hxj⟩, hlv, hv⟩ := zop9 hg S0
  have hP : yF (xb_I (zwV ws) (zwA ws)) := zqP_of hR
  generalize hfe : zwV ws = f at *
  generalize hge : zwA ws = g0 at *
  generalize hbe : zwB ws = bb at *
  have hB := yBG_of (xz_bd hv)
  have hxj2 : xj.toInt = 6 := by
    obtain ⟨q1, q2⟩ := hxj
    have q1 : (6 : Int) ≤ xj.toInt := q1
    have q2 : xj.toInt ≤ (6 : Int) := q2
    omega
  refine lv_tableIn C.1 C.2.1 (zdaP zDL0 39 (by decide) rfl rfl) (by rw [hxj2]; decide) (by rw [hxj2]; decide) (off := 366) (by rw [hxj2]; rfl) (tgt := 405) (by decide) ?_
  refine lv_aload_n C.1 C.2.1 (zdaP zDL1 405 (by decide) rfl rfl) rfl (lv_at hlv 2 rfl) ?_
  refine lv_aload_n C.1 C.2.1 (zdaP zDL1 406 (by decide) rfl rfl) rfl (lv_at hlv 1 rfl) ?_
  refine lv_iload C.1 C.2.1 (zdaP zDL1 407 (by decide) rfl rfl) (lv_at hlv 0 rfl) ?_
  refine lv_iconst C.1 C.2.1 (zdaP zDL1 409 (by decide) rfl rfl) rfl ?_
  refine lv_iadd C.1 C.2.1 (zdaP zDL1 410 (by decide) rfl rfl) ?_
  refine va_sld C.1 C.2.1 hX hbl hbA hv.2.2.2.1 (vp_in_iff.mpr ⟨by rw [show Int32.ofInt 1 = Int32.ofInt ((1 : Nat) : Int) by decide, zsc1 hi (by decide)]; omega, by rw [show Int32.ofInt 1 = Int32.ofInt ((1 : Nat) : Int) by decide, zsc1 hi (by decide)]; omega⟩) (zdaP zDL1 411 (by decide) rfl rfl) ?_
  refine lv_aload_n C.1 C.2.1 (zdaP zDL1 412 (by decide) rfl rfl) rfl (lv_at hlv 1 rfl) ?_
  refine lv_iload C.1 C.2.1 (zdaP zDL1 413 (by decide) rfl rfl) (lv_at hlv 0 rfl) ?_
  refine lv_iconst C.1 C.2.1 (zdaP zDL1 415 (by decide) rfl rfl) rfl ?_
  refine lv_iadd C.1 C.2.1 (zdaP zDL1 416 (by decide) rfl rfl) ?_
  refine va_sld C.1 C.2.1 hX hbl hbA hv.2.2.2.1 (vp_in_iff.mpr ⟨by rw [show Int32.ofInt 2 = Int32.ofInt ((2 : Nat) : Int) by decide, zsc1 hi (by decide)]; omega, by rw [show Int32.ofInt 2 = Int32.ofInt ((2 : Nat) : Int) by decide, zsc1 hi (by decide)]; omega⟩) (zdaP zDL1 417 (by decide) rfl rfl) ?_
  have hvA := hv
  refine zV_callV C (zcx_X7_set E (d := 1) (by decide) (x0 := xs (Int32.ofNat i + Int32.ofInt 1).toNatClampNeg) (x1 := xs (Int32.ofNat i + Int32.ofInt 2).toNatClampNeg) (fun J => (yRm_F (yRm_B (B' := yBG) (fun _ h => h.1) (ysetF (I := xb_I f g0) (x := xs (Int32.ofNat i + Int32.ofInt 1).toNatClampNeg) (y := xs (Int32.ofNat i + Int32.ofInt 2).toNatClampNeg) hP hB.1))) J _ xz_Rok)) rfl rfl (by decide) (by decide) (show vwCl[7]? = some (RX7, TX7, 16) from rfl) zw587 zw584 zw585 zw586 zw1 (n := 2) (by decide +kernel) (zdaP zDL1 418 (by decide) rfl rfl) rfl zvk0 (show 0 < 126 by decide) hv hlv.1 (by show 0 ≤ 8; decide) (by show 0 + K ≤ 601024; omega) (by show 0 + S ≤ 7293034; omega) (fun v f9 g9 ws H locs hp hv => ?_)
  obtain ⟨⟨a1, I1, rfl, hPo, hag⟩, h4a, h5a⟩ := hp
  have hq := hPo _ (xz_e hv hag) (xm_fr hvA hv h4a h5a) (yBG_of (xz_bd hv))
  have hvB := hv
  refine lv_pop C.1 C.2.1 (zdaP zDL1 421 (by decide) rfl rfl) rfl ?_
  refine lv_aload_n C.1 C.2.1 (zdaP zDL1 422 (by decide) rfl rfl) rfl (lv_at hlv 3 rfl) ?_
  refine lv_aload_n C.1 C.2.1 (zdaP zDL1 423 (by decide) rfl rfl) rfl (lv_at hlv 1 rfl) ?_
  refine lv_iload C.1 C.2.1 (zdaP zDL1 424 (by decide) rfl rfl) (lv_at hlv 0 rfl) ?_
  refine lv_iconst C.1 C.2.1 (zdaP zDL1 426 (by decide) rfl rfl) rfl ?_
  refine lv_iadd C.1 C.2.1 (zdaP zDL1 427 (by decide) rfl rfl) ?_
  refine va_sld C.1 C.2.1 hX hbl hbA hv.2.2.2.1 (vp_in_iff.mpr ⟨by rw [show Int32.ofInt 1 = Int32.ofInt ((1 : Nat) : Int) by decide, zsc1 hi (by decide)]; omega, by rw [show Int32.ofInt 1 = Int32.ofInt ((1 : Nat) : Int) by decide, zsc1 hi (by decide)]; omega⟩) (zdaP zDL1 428 (by decide) rfl rfl) ?_
  refine lv_aload_n C.1 C.2.1 (zdaP zDL1 429 (by decide) rfl rfl) rfl (lv_at hlv 1 rfl) ?_
  refine lv_iload C.1 C.2.1 (zdaP zDL1 430 (by decide) rfl rfl) (lv_at hlv 0 rfl) ?_
  refine lv_iconst C.1 C.2.1 (zdaP zDL1 432 (by decide) rfl rfl) rfl ?_
  refine lv_iadd C.1 C.2.1 (zdaP zDL1 433 (by decide) rfl rfl) ?_
  refine va_sld C.1 C.2.1 hX hbl hbA hv.2.2.2.1 (vp_in_iff.mpr ⟨by rw [show Int32.ofInt 2 = Int32.ofInt ((2 : Nat) : Int) by decide, zsc1 hi (by decide)]; omega, by rw [show Int32.ofInt 2 = Int32.ofInt ((2 : Nat) : Int) by decide, zsc1 hi (by decide)]; omega⟩) (zdaP zDL1 434 (by decide) rfl rfl) ?_
  refine zV_callV C (zcx_X8_set E (d := 2) (by decide) (x0 := xs (Int32.ofNat i + Int32.ofInt 1).toNatClampNeg) (x1 := xs (Int32.ofNat i + Int32.ofInt 2).toNatClampNeg) (fun J => hq J _ xz_Rok)) rfl rfl (by decide) (by decide) (show vwCl[8]? = some (RX8, TX8, 51) from rfl) zw1445 zw1442 zw1443 zw1444 zw16 (n := 2) (by decide +kernel) (zdaP zDL1 435 (by decide) rfl rfl) rfl zvk94 (show 94 < 126 by decide) hv hlv.1 (by show 0 ≤ 8; decide) (by show 0 + K ≤ 601024; omega) (by show 0 + S ≤ 7293034; omega) (fun v f9 g9 ws H locs hp hv => ?_)
  obtain ⟨⟨a2, I2, rfl, ⟨hab, hP2⟩, hag2⟩, h4b, h5b⟩ := hp
  have hP3 := hP2 _ (xz_e hv hag2) (xm_fr hvB hv h4b h5b) (yBG_of (xz_bd hv))
  refine lv_pop C.1 C.2.1 (zdaP zDL1 438 (by decide) rfl rfl) rfl ?_
  refine lv_goto C.1 C.2.1 (zdaP zDL1 439 (by decide) rfl rfl) (tgt := 1436) (by decide) ?_
  refine lv_iinc C.1 C.2.1 (zdaP zDL5 1436 (by decide) rfl rfl) hlv (k := 0) rfl rfl (by decide) (lv' := [(4, .int ((Int32.ofNat i) + Int32.ofInt 5)), (0, .ref o.1), (1, .ref (bb 0)), (2, .ref (bb 94)), (3, .ref (bb 125))]) rfl (fun ls hlv => ?_)
  rw [zinc5 hi] at hlv
  refine lv_goto C.1 C.2.1 (zdaP zDL5 1439 (by decide) rfl rfl) (tgt := 23) (by decide) ?_
  exact zcl9 (by omega) hn hlv hv (zqJ_of hv hP3)
set_option maxHeartbeats 8000000 in
theorem zsx_sheet (E : zEnv tys) (C : zCx p room_1 s m #[Value.ref b] meth c0 D vwCl tys z (zXX o z) zTs RL cL_law 8 nm) (hX : va_X o.1 L xs s s.heap) (hbl : o.1 < s.heap.size) (hbA : ¬ zA z o.1) (hL : L ≤ 2560) {b1 b2 : zI} : zSpec p l e s m b below meth c0 D tys o z L xs zyI zqJ (.ofNat 7, .ofNat 7) b1 b2 := by
  intro i K S g ls H locs ws hg h5 hi hK hS hj hm1 hm2 vst S0 hR hn
  obtain ⟨⟨xj, rfl, hxj⟩, hlv, hv⟩ := zop9 hg S0
  have hP : yF (xb_I (zwV ws) (zwA ws)) := zqP_of hR
  generalize hfe : zwV ws = f at *
  generalize hge : zwA ws = g0 at *
  generalize hbe : zwB ws = bb at *
  have hB := yBG_of (xz_bd hv)
  have hxj2 : xj.toInt = 7 := by
    obtain ⟨q1, q2⟩ := hxj
    have q1 : (7 : Int) ≤ xj.toInt := q1
    have q2 : xj.toInt ≤ (7 : Int) := q2
    omega
  refine lv_tableIn C.1 C.2.1 (zdaP zDL0 39 (by decide) rfl rfl) (by rw [hxj2]; decide) (by rw [hxj2]; decide) (off := 403) (by rw [hxj2]; rfl) (tgt := 442) (by decide) ?_
  refine lv_aload_n C.1 C.2.1 (zdaP zDL1 442 (by decide) rfl rfl) rfl (lv_at hlv 2 rfl) ?_
  refine lv_aload_n C.1 C.2.1 (zdaP zDL1 443 (by decide) rfl rfl) rfl (lv_at hlv 1 rfl) ?_
  refine lv_iload C.1 C.2.1 (zdaP zDL1 444 (by decide) rfl rfl) (lv_at hlv 0 rfl) ?_
  refine lv_iconst C.1 C.2.1 (zdaP zDL1 446 (by decide) rfl rfl) rfl ?_
  refine lv_iadd C.1 C.2.1 (zdaP zDL1 447 (by decide) rfl rfl) ?_
  refine va_sld C.1 C.2.1 hX hbl hbA hv.2.2.2.1 (vp_in_iff.mpr ⟨by rw [show Int32.ofInt 1 = Int32.ofInt ((1 : Nat) : Int) by decide, zsc1 hi (by decide)]; omega, by rw [show Int32.ofInt 1 = Int32.ofInt ((1 : Nat) : Int) by decide, zsc1 hi (by decide)]; omega⟩) (zdaP zDL1 448 (by decide) rfl rfl) ?_
  refine lv_aload_n C.1 C.2.1 (zdaP zDL1 449 (by decide) rfl rfl) rfl (lv_at hlv 1 rfl) ?_
  refine lv_iload C.1 C.2.1 (zdaP zDL1 450 (by decide) rfl rfl) (lv_at hlv 0 rfl) ?_
  refine lv_iconst C.1 C.2.1 (zdaP zDL1 452 (by decide) rfl rfl) rfl ?_
  refine lv_iadd C.1 C.2.1 (zdaP zDL1 453 (by decide) rfl rfl) ?_
  refine va_sld C.1 C.2.1 hX hbl hbA hv.2.2.2.1 (vp_in_iff.mpr ⟨by rw [show Int32.ofInt 2 = Int32.ofInt ((2 : Nat) : Int) by decide, zsc1 hi (by decide)]; omega, by rw [show Int32.ofInt 2 = Int32.ofInt ((2 : Nat) : Int) by decide, zsc1 hi (by decide)]; omega⟩) (zdaP zDL1 454 (by decide) rfl rfl) ?_
  refine lv_aload_n C.1 C.2.1 (zdaP zDL1 455 (by decide) rfl rfl) rfl (lv_at hlv 1 rfl) ?_
  refine lv_iload C.1 C.2.1 (zdaP zDL1 456 (by decide) rfl rfl) (lv_at hlv 0 rfl) ?_
  refine lv_iconst C.1 C.2.1 (zdaP zDL1 458 (by decide) rfl rfl) rfl ?_
  refine lv_iadd C.1 C.2.1 (zdaP zDL1 459 (by decide) rfl rfl) ?_
  refine va_sld C.1 C.2.1 hX hbl hbA hv.2.2.2.1 (vp_in_iff.mpr ⟨by rw [show Int32.ofInt 3 = Int32.ofInt ((3 : Nat) : Int) by decide, zsc1 hi (by decide)]; omega, by rw [show Int32.ofInt 3 = Int32.ofInt ((3 : Nat) : Int) by decide, zsc1 hi (by decide)]; omega⟩) (zdaP zDL1 460 (by decide) rfl rfl) ?_
  refine lv_aload_n C.1 C.2.1 (zdaP zDL1 461 (by decide) rfl rfl) rfl (lv_at hlv 1 rfl) ?_
  refine lv_iload C.1 C.2.1 (zdaP zDL1 462 (by decide) rfl rfl) (lv_at hlv 0 rfl) ?_
  refine lv_iconst C.1 C.2.1 (zdaP zDL1 464 (by decide) rfl rfl) rfl ?_
  refine lv_iadd C.1 C.2.1 (zdaP zDL1 465 (by decide) rfl rfl) ?_
  refine va_sld C.1 C.2.1 hX hbl hbA hv.2.2.2.1 (vp_in_iff.mpr ⟨by rw [show Int32.ofInt 4 = Int32.ofInt ((4 : Nat) : Int) by decide, zsc1 hi (by decide)]; omega, by rw [show Int32.ofInt 4 = Int32.ofInt ((4 : Nat) : Int) by decide, zsc1 hi (by decide)]; omega⟩) (zdaP zDL1 466 (by decide) rfl rfl) ?_
  have hvA := hv
  refine zV_callV C (zcx_X7_sheet E (d := 2) (by decide) (x0 := xs (Int32.ofNat i + Int32.ofInt 1).toNatClampNeg) (x1 := xs (Int32.ofNat i + Int32.ofInt 2).toNatClampNeg) (x2 := xs (Int32.ofNat i + Int32.ofInt 3).toNatClampNeg) (x3 := xs (Int32.ofNat i + Int32.ofInt 4).toNatClampNeg) (fun J => (yRm_F (yRm_B (B' := yBG) (fun _ h => h.1) (ysheetF (I := xb_I f g0) (x := xs (Int32.ofNat i + Int32.ofInt 1).toNatClampNeg) (y := xs (Int32.ofNat i + Int32.ofInt 2).toNatClampNeg) (z := xs (Int32.ofNat i + Int32.ofInt 3).toNatClampNeg) (w := xs (Int32.ofNat i + Int32.ofInt 4).toNatClampNeg) hP hB.1))) J _ xz_Rok)) rfl rfl (by decide) (by decide) (show vwCl[7]? = some (RX7, TX7, 16) from rfl) zw591 zw588 zw589 zw590 zw1 (n := 4) (by decide +kernel) (zdaP zDL1 467 (by decide) rfl rfl) rfl zvk0 (show 0 < 126 by decide) hv hlv.1 (by show 0 ≤ 8; decide) (by show 0 + K ≤ 601024; omega) (by show 0 + S ≤ 7293034; omega) (fun v f9 g9 ws H locs hp hv => ?_)
  obtain ⟨⟨a1, I1, rfl, hPo, hag⟩, h4a, h5a⟩ := hp
  have hq := hPo _ (xz_e hv hag) (xm_fr hvA hv h4a h5a) (yBG_of (xz_bd hv))
  have hvB := hv
  refine lv_pop C.1 C.2.1 (zdaP zDL1 470 (by decide) rfl rfl) rfl ?_
  refine lv_aload_n C.1 C.2.1 (zdaP zDL1 471 (by decide) rfl rfl) rfl (lv_at hlv 3 rfl) ?_
  refine lv_aload_n C.1 C.2.1 (zdaP zDL1 472 (by decide) rfl rfl) rfl (lv_at hlv 1 rfl) ?_
  refine lv_iload C.1 C.2.1 (zdaP zDL1 473 (by decide) rfl rfl) (lv_at hlv 0 rfl) ?_
  refine lv_iconst C.1 C.2.1 (zdaP zDL1 475 (by decide) rfl rfl) rfl ?_
  refine lv_iadd C.1 C.2.1 (zdaP zDL1 476 (by decide) rfl rfl) ?_
  refine va_sld C.1 C.2.1 hX hbl hbA hv.2.2.2.1 (vp_in_iff.mpr ⟨by rw [show Int32.ofInt 1 = Int32.ofInt ((1 : Nat) : Int) by decide, zsc1 hi (by decide)]; omega, by rw [show Int32.ofInt 1 = Int32.ofInt ((1 : Nat) : Int) by decide, zsc1 hi (by decide)]; omega⟩) (zdaP zDL1 477 (by decide) rfl rfl) ?_
  refine lv_aload_n C.1 C.2.1 (zdaP zDL1 478 (by decide) rfl rfl) rfl (lv_at hlv 1 rfl) ?_
  refine lv_iload C.1 C.2.1 (zdaP zDL1 479 (by decide) rfl rfl) (lv_at hlv 0 rfl) ?_
  refine lv_iconst C.1 C.2.1 (zdaP zDL1 481 (by decide) rfl rfl) rfl ?_
  refine lv_iadd C.1 C.2.1 (zdaP zDL1 482 (by decide) rfl rfl) ?_
  refine va_sld C.1 C.2.1 hX hbl hbA hv.2.2.2.1 (vp_in_iff.mpr ⟨by rw [show Int32.ofInt 2 = Int32.ofInt ((2 : Nat) : Int) by decide, zsc1 hi (by decide)]; omega, by rw [show Int32.ofInt 2 = Int32.ofInt ((2 : Nat) : Int) by decide, zsc1 hi (by decide)]; omega⟩) (zdaP zDL1 483 (by decide) rfl rfl) ?_
  refine lv_aload_n C.1 C.2.1 (zdaP zDL1 484 (by decide) rfl rfl) rfl (lv_at hlv 1 rfl) ?_
  refine lv_iload C.1 C.2.1 (zdaP zDL1 485 (by decide) rfl rfl) (lv_at hlv 0 rfl) ?_
  refine lv_iconst C.1 C.2.1 (zdaP zDL1 487 (by decide) rfl rfl) rfl ?_
  refine lv_iadd C.1 C.2.1 (zdaP zDL1 488 (by decide) rfl rfl) ?_
  refine va_sld C.1 C.2.1 hX hbl hbA hv.2.2.2.1 (vp_in_iff.mpr ⟨by rw [show Int32.ofInt 3 = Int32.ofInt ((3 : Nat) : Int) by decide, zsc1 hi (by decide)]; omega, by rw [show Int32.ofInt 3 = Int32.ofInt ((3 : Nat) : Int) by decide, zsc1 hi (by decide)]; omega⟩) (zdaP zDL1 489 (by decide) rfl rfl) ?_
  refine lv_aload_n C.1 C.2.1 (zdaP zDL1 490 (by decide) rfl rfl) rfl (lv_at hlv 1 rfl) ?_
  refine lv_iload C.1 C.2.1 (zdaP zDL1 491 (by decide) rfl rfl) (lv_at hlv 0 rfl) ?_
  refine lv_iconst C.1 C.2.1 (zdaP zDL1 493 (by decide) rfl rfl) rfl ?_
  refine lv_iadd C.1 C.2.1 (zdaP zDL1 494 (by decide) rfl rfl) ?_
  refine va_sld C.1 C.2.1 hX hbl hbA hv.2.2.2.1 (vp_in_iff.mpr ⟨by rw [show Int32.ofInt 4 = Int32.ofInt ((4 : Nat) : Int) by decide, zsc1 hi (by decide)]; omega, by rw [show Int32.ofInt 4 = Int32.ofInt ((4 : Nat) : Int) by decide, zsc1 hi (by decide)]; omega⟩) (zdaP zDL1 495 (by decide) rfl rfl) ?_
  refine zV_callV C (zcx_X8_sheet E (d := 2) (by decide) (x0 := xs (Int32.ofNat i + Int32.ofInt 1).toNatClampNeg) (x1 := xs (Int32.ofNat i + Int32.ofInt 2).toNatClampNeg) (x2 := xs (Int32.ofNat i + Int32.ofInt 3).toNatClampNeg) (x3 := xs (Int32.ofNat i + Int32.ofInt 4).toNatClampNeg) (fun J => hq J _ xz_Rok)) rfl rfl (by decide) (by decide) (show vwCl[8]? = some (RX8, TX8, 51) from rfl) zw1449 zw1446 zw1447 zw1448 zw16 (n := 4) (by decide +kernel) (zdaP zDL1 496 (by decide) rfl rfl) rfl zvk94 (show 94 < 126 by decide) hv hlv.1 (by show 0 ≤ 8; decide) (by show 0 + K ≤ 601024; omega) (by show 0 + S ≤ 7293034; omega) (fun v f9 g9 ws H locs hp hv => ?_)
  obtain ⟨⟨a2, I2, rfl, ⟨hab, hP2⟩, hag2⟩, h4b, h5b⟩ := hp
  have hP3 := hP2 _ (xz_e hv hag2) (xm_fr hvB hv h4b h5b) (yBG_of (xz_bd hv))
  refine lv_pop C.1 C.2.1 (zdaP zDL1 499 (by decide) rfl rfl) rfl ?_
  refine lv_goto C.1 C.2.1 (zdaP zDL1 500 (by decide) rfl rfl) (tgt := 1436) (by decide) ?_
  refine lv_iinc C.1 C.2.1 (zdaP zDL5 1436 (by decide) rfl rfl) hlv (k := 0) rfl rfl (by decide) (lv' := [(4, .int ((Int32.ofNat i) + Int32.ofInt 5)), (0, .ref o.1), (1, .ref (bb 0)), (2, .ref (bb 94)), (3, .ref (bb 125))]) rfl (fun ls hlv => ?_)
  rw [zinc5 hi] at hlv
  refine lv_goto C.1 C.2.1 (zdaP zDL5 1439 (by decide) rfl rfl) (tgt := 23) (by decide) ?_
  exact zcl9 (by omega) hn hlv hv (zqJ_of hv hP3)
set_option maxHeartbeats 8000000 in
theorem zsx_rota (E : zEnv tys) (C : zCx p room_1 s m #[Value.ref b] meth c0 D vwCl tys z (zXX o z) zTs RL cL_law 8 nm) (hX : va_X o.1 L xs s s.heap) (hbl : o.1 < s.heap.size) (hbA : ¬ zA z o.1) (hL : L ≤ 2560) {b1 b2 : zI} : zSpec p l e s m b below meth c0 D tys o z L xs zyI zqJ (.ofNat 8, .ofNat 8) b1 b2 := by
  intro i K S g ls H locs ws hg h5 hi hK hS hj hm1 hm2 vst S0 hR hn
  obtain ⟨⟨xj, rfl, hxj⟩, hlv, hv⟩ := zop9 hg S0
  have hP : yF (xb_I (zwV ws) (zwA ws)) := zqP_of hR
  generalize hfe : zwV ws = f at *
  generalize hge : zwA ws = g0 at *
  generalize hbe : zwB ws = bb at *
  have hB := yBG_of (xz_bd hv)
  have hxj2 : xj.toInt = 8 := by
    obtain ⟨q1, q2⟩ := hxj
    have q1 : (8 : Int) ≤ xj.toInt := q1
    have q2 : xj.toInt ≤ (8 : Int) := q2
    omega
  refine lv_tableIn C.1 C.2.1 (zdaP zDL0 39 (by decide) rfl rfl) (by rw [hxj2]; decide) (by rw [hxj2]; decide) (off := 464) (by rw [hxj2]; rfl) (tgt := 503) (by decide) ?_
  refine lv_aload_n C.1 C.2.1 (zdaP zDL1 503 (by decide) rfl rfl) rfl (lv_at hlv 2 rfl) ?_
  have hvA := hv
  refine zV_callV C (zcx_X7_rota E (d := 3) (by decide) (fun J => (yRm_F (yRm_B (B' := yBG) (fun _ h => h.1) (yrotaF (I := xb_I f g0) hP hB.1))) J _ xz_Rok)) rfl rfl (by decide) (by decide) (show vwCl[7]? = some (RX7, TX7, 16) from rfl) zw604 zw601 zw602 zw603 zw1 (n := 0) (by decide +kernel) (zdaP zDL1 504 (by decide) rfl rfl) rfl zvk0 (show 0 < 126 by decide) hv hlv.1 (by show 0 ≤ 8; decide) (by show 0 + K ≤ 601024; omega) (by show 0 + S ≤ 7293034; omega) (fun v f9 g9 ws H locs hp hv => ?_)
  obtain ⟨⟨a1, I1, rfl, hPo, hag⟩, h4a, h5a⟩ := hp
  have hq := hPo _ (xz_e hv hag) (xm_fr hvA hv h4a h5a) (yBG_of (xz_bd hv))
  have hvB := hv
  refine lv_pop C.1 C.2.1 (zdaP zDL1 507 (by decide) rfl rfl) rfl ?_
  refine lv_aload_n C.1 C.2.1 (zdaP zDL1 508 (by decide) rfl rfl) rfl (lv_at hlv 3 rfl) ?_
  refine zV_callV C (zcx_X8_rota E (d := 4) (by decide) (fun J => hq J _ xz_Rok)) rfl rfl (by decide) (by decide) (show vwCl[8]? = some (RX8, TX8, 51) from rfl) zw1453 zw1450 zw1451 zw1452 zw16 (n := 0) (by decide +kernel) (zdaP zDL1 509 (by decide) rfl rfl) rfl zvk94 (show 94 < 126 by decide) hv hlv.1 (by show 0 ≤ 8; decide) (by show 0 + K ≤ 601024; omega) (by show 0 + S ≤ 7293034; omega) (fun v f9 g9 ws H locs hp hv => ?_)
  obtain ⟨⟨a2, I2, rfl, ⟨hab, hP2⟩, hag2⟩, h4b, h5b⟩ := hp
  have hP3 := hP2 _ (xz_e hv hag2) (xm_fr hvB hv h4b h5b) (yBG_of (xz_bd hv))
  refine lv_pop C.1 C.2.1 (zdaP zDL2 512 (by decide) rfl rfl) rfl ?_
  refine lv_goto C.1 C.2.1 (zdaP zDL2 513 (by decide) rfl rfl) (tgt := 1436) (by decide) ?_
  refine lv_iinc C.1 C.2.1 (zdaP zDL5 1436 (by decide) rfl rfl) hlv (k := 0) rfl rfl (by decide) (lv' := [(4, .int ((Int32.ofNat i) + Int32.ofInt 5)), (0, .ref o.1), (1, .ref (bb 0)), (2, .ref (bb 94)), (3, .ref (bb 125))]) rfl (fun ls hlv => ?_)
  rw [zinc5 hi] at hlv
  refine lv_goto C.1 C.2.1 (zdaP zDL5 1439 (by decide) rfl rfl) (tgt := 23) (by decide) ?_
  exact zcl9 (by omega) hn hlv hv (zqJ_of hv hP3)
set_option maxHeartbeats 8000000 in
theorem zsx_give (E : zEnv tys) (C : zCx p room_1 s m #[Value.ref b] meth c0 D vwCl tys z (zXX o z) zTs RL cL_law 8 nm) (hX : va_X o.1 L xs s s.heap) (hbl : o.1 < s.heap.size) (hbA : ¬ zA z o.1) (hL : L ≤ 2560) {b1 b2 : zI} : zSpec p l e s m b below meth c0 D tys o z L xs zyI zqJ (.ofNat 9, .ofNat 9) b1 b2 := by
  intro i K S g ls H locs ws hg h5 hi hK hS hj hm1 hm2 vst S0 hR hn
  obtain ⟨⟨xj, rfl, hxj⟩, hlv, hv⟩ := zop9 hg S0
  have hP : yF (xb_I (zwV ws) (zwA ws)) := zqP_of hR
  generalize hfe : zwV ws = f at *
  generalize hge : zwA ws = g0 at *
  generalize hbe : zwB ws = bb at *
  have hB := yBG_of (xz_bd hv)
  have hxj2 : xj.toInt = 9 := by
    obtain ⟨q1, q2⟩ := hxj
    have q1 : (9 : Int) ≤ xj.toInt := q1
    have q2 : xj.toInt ≤ (9 : Int) := q2
    omega
  refine lv_tableIn C.1 C.2.1 (zdaP zDL0 39 (by decide) rfl rfl) (by rw [hxj2]; decide) (by rw [hxj2]; decide) (off := 477) (by rw [hxj2]; rfl) (tgt := 516) (by decide) ?_
  refine lv_aload_n C.1 C.2.1 (zdaP zDL2 516 (by decide) rfl rfl) rfl (lv_at hlv 2 rfl) ?_
  refine lv_aload_n C.1 C.2.1 (zdaP zDL2 517 (by decide) rfl rfl) rfl (lv_at hlv 1 rfl) ?_
  refine lv_iload C.1 C.2.1 (zdaP zDL2 518 (by decide) rfl rfl) (lv_at hlv 0 rfl) ?_
  refine lv_iconst C.1 C.2.1 (zdaP zDL2 520 (by decide) rfl rfl) rfl ?_
  refine lv_iadd C.1 C.2.1 (zdaP zDL2 521 (by decide) rfl rfl) ?_
  refine va_sld C.1 C.2.1 hX hbl hbA hv.2.2.2.1 (vp_in_iff.mpr ⟨by rw [show Int32.ofInt 1 = Int32.ofInt ((1 : Nat) : Int) by decide, zsc1 hi (by decide)]; omega, by rw [show Int32.ofInt 1 = Int32.ofInt ((1 : Nat) : Int) by decide, zsc1 hi (by decide)]; omega⟩) (zdaP zDL2 522 (by decide) rfl rfl) ?_
  refine lv_aload_n C.1 C.2.1 (zdaP zDL2 523 (by decide) rfl rfl) rfl (lv_at hlv 1 rfl) ?_
  refine lv_iload C.1 C.2.1 (zdaP zDL2 524 (by decide) rfl rfl) (lv_at hlv 0 rfl) ?_
  refine lv_iconst C.1 C.2.1 (zdaP zDL2 526 (by decide) rfl rfl) rfl ?_
  refine lv_iadd C.1 C.2.1 (zdaP zDL2 527 (by decide) rfl rfl) ?_
  refine va_sld C.1 C.2.1 hX hbl hbA hv.2.2.2.1 (vp_in_iff.mpr ⟨by rw [show Int32.ofInt 2 = Int32.ofInt ((2 : Nat) : Int) by decide, zsc1 hi (by decide)]; omega, by rw [show Int32.ofInt 2 = Int32.ofInt ((2 : Nat) : Int) by decide, zsc1 hi (by decide)]; omega⟩) (zdaP zDL2 528 (by decide) rfl rfl) ?_
  have hvA := hv
  refine zV_callV C (zcx_X7_give E (d := 4) (by decide) (x0 := xs (Int32.ofNat i + Int32.ofInt 1).toNatClampNeg) (x1 := xs (Int32.ofNat i + Int32.ofInt 2).toNatClampNeg) (fun J => (yRm_F (yRm_B (B' := yBG) (fun _ h => h.1) (ygive (I := xb_I f g0) (x := xs (Int32.ofNat i + Int32.ofInt 1).toNatClampNeg) (y := xs (Int32.ofNat i + Int32.ofInt 2).toNatClampNeg) hP hB.1))) J _ xz_Rok)) rfl rfl (by decide) (by decide) (show vwCl[7]? = some (RX7, TX7, 16) from rfl) zw631 zw628 zw629 zw630 zw1 (n := 2) (by decide +kernel) (zdaP zDL2 529 (by decide) rfl rfl) rfl zvk0 (show 0 < 126 by decide) hv hlv.1 (by show 0 ≤ 8; decide) (by show 0 + K ≤ 601024; omega) (by show 0 + S ≤ 7293034; omega) (fun v f9 g9 ws H locs hp hv => ?_)
  obtain ⟨⟨a1, I1, rfl, hPo, hag⟩, h4a, h5a⟩ := hp
  have hq := hPo _ (xz_e hv hag) (xm_fr hvA hv h4a h5a) (yBG_of (xz_bd hv))
  have hvB := hv
  refine lv_pop C.1 C.2.1 (zdaP zDL2 532 (by decide) rfl rfl) rfl ?_
  refine lv_aload_n C.1 C.2.1 (zdaP zDL2 533 (by decide) rfl rfl) rfl (lv_at hlv 3 rfl) ?_
  refine lv_aload_n C.1 C.2.1 (zdaP zDL2 534 (by decide) rfl rfl) rfl (lv_at hlv 1 rfl) ?_
  refine lv_iload C.1 C.2.1 (zdaP zDL2 535 (by decide) rfl rfl) (lv_at hlv 0 rfl) ?_
  refine lv_iconst C.1 C.2.1 (zdaP zDL2 537 (by decide) rfl rfl) rfl ?_
  refine lv_iadd C.1 C.2.1 (zdaP zDL2 538 (by decide) rfl rfl) ?_
  refine va_sld C.1 C.2.1 hX hbl hbA hv.2.2.2.1 (vp_in_iff.mpr ⟨by rw [show Int32.ofInt 1 = Int32.ofInt ((1 : Nat) : Int) by decide, zsc1 hi (by decide)]; omega, by rw [show Int32.ofInt 1 = Int32.ofInt ((1 : Nat) : Int) by decide, zsc1 hi (by decide)]; omega⟩) (zdaP zDL2 539 (by decide) rfl rfl) ?_
  refine lv_aload_n C.1 C.2.1 (zdaP zDL2 540 (by decide) rfl rfl) rfl (lv_at hlv 1 rfl) ?_
  refine lv_iload C.1 C.2.1 (zdaP zDL2 541 (by decide) rfl rfl) (lv_at hlv 0 rfl) ?_
  refine lv_iconst C.1 C.2.1 (zdaP zDL2 543 (by decide) rfl rfl) rfl ?_
  refine lv_iadd C.1 C.2.1 (zdaP zDL2 544 (by decide) rfl rfl) ?_
  refine va_sld C.1 C.2.1 hX hbl hbA hv.2.2.2.1 (vp_in_iff.mpr ⟨by rw [show Int32.ofInt 2 = Int32.ofInt ((2 : Nat) : Int) by decide, zsc1 hi (by decide)]; omega, by rw [show Int32.ofInt 2 = Int32.ofInt ((2 : Nat) : Int) by decide, zsc1 hi (by decide)]; omega⟩) (zdaP zDL2 545 (by decide) rfl rfl) ?_
  refine zV_callV C (zcx_X8_give E (d := 4) (by decide) (x0 := xs (Int32.ofNat i + Int32.ofInt 1).toNatClampNeg) (x1 := xs (Int32.ofNat i + Int32.ofInt 2).toNatClampNeg) (fun J => hq J _ xz_Rok)) rfl rfl (by decide) (by decide) (show vwCl[8]? = some (RX8, TX8, 51) from rfl) zw1464 zw1461 zw1462 zw1463 zw16 (n := 2) (by decide +kernel) (zdaP zDL2 546 (by decide) rfl rfl) rfl zvk94 (show 94 < 126 by decide) hv hlv.1 (by show 0 ≤ 8; decide) (by show 0 + K ≤ 601024; omega) (by show 0 + S ≤ 7293034; omega) (fun v f9 g9 ws H locs hp hv => ?_)
  obtain ⟨⟨a2, I2, rfl, ⟨hab, hP2⟩, hag2⟩, h4b, h5b⟩ := hp
  have hP3 := hP2 _ (xz_e hv hag2) (xm_fr hvB hv h4b h5b) (yBG_of (xz_bd hv))
  refine lv_pop C.1 C.2.1 (zdaP zDL2 549 (by decide) rfl rfl) rfl ?_
  refine lv_goto C.1 C.2.1 (zdaP zDL2 550 (by decide) rfl rfl) (tgt := 1436) (by decide) ?_
  refine lv_iinc C.1 C.2.1 (zdaP zDL5 1436 (by decide) rfl rfl) hlv (k := 0) rfl rfl (by decide) (lv' := [(4, .int ((Int32.ofNat i) + Int32.ofInt 5)), (0, .ref o.1), (1, .ref (bb 0)), (2, .ref (bb 94)), (3, .ref (bb 125))]) rfl (fun ls hlv => ?_)
  rw [zinc5 hi] at hlv
  refine lv_goto C.1 C.2.1 (zdaP zDL5 1439 (by decide) rfl rfl) (tgt := 23) (by decide) ?_
  exact zcl9 (by omega) hn hlv hv (zqJ_of hv hP3)
set_option maxHeartbeats 8000000 in
theorem zsx_ill (E : zEnv tys) (C : zCx p room_1 s m #[Value.ref b] meth c0 D vwCl tys z (zXX o z) zTs RL cL_law 8 nm) (hX : va_X o.1 L xs s s.heap) (hbl : o.1 < s.heap.size) (hbA : ¬ zA z o.1) (hL : L ≤ 2560) {b1 b2 : zI} : zSpec p l e s m b below meth c0 D tys o z L xs zyI zqJ (.ofNat 10, .ofNat 10) b1 b2 := by
  intro i K S g ls H locs ws hg h5 hi hK hS hj hm1 hm2 vst S0 hR hn
  obtain ⟨⟨xj, rfl, hxj⟩, hlv, hv⟩ := zop9 hg S0
  have hP : yF (xb_I (zwV ws) (zwA ws)) := zqP_of hR
  generalize hfe : zwV ws = f at *
  generalize hge : zwA ws = g0 at *
  generalize hbe : zwB ws = bb at *
  have hB := yBG_of (xz_bd hv)
  have hxj2 : xj.toInt = 10 := by
    obtain ⟨q1, q2⟩ := hxj
    have q1 : (10 : Int) ≤ xj.toInt := q1
    have q2 : xj.toInt ≤ (10 : Int) := q2
    omega
  refine lv_tableIn C.1 C.2.1 (zdaP zDL0 39 (by decide) rfl rfl) (by rw [hxj2]; decide) (by rw [hxj2]; decide) (off := 514) (by rw [hxj2]; rfl) (tgt := 553) (by decide) ?_
  refine lv_aload_n C.1 C.2.1 (zdaP zDL2 553 (by decide) rfl rfl) rfl (lv_at hlv 2 rfl) ?_
  refine lv_aload_n C.1 C.2.1 (zdaP zDL2 554 (by decide) rfl rfl) rfl (lv_at hlv 1 rfl) ?_
  refine lv_iload C.1 C.2.1 (zdaP zDL2 555 (by decide) rfl rfl) (lv_at hlv 0 rfl) ?_
  refine lv_iconst C.1 C.2.1 (zdaP zDL2 557 (by decide) rfl rfl) rfl ?_
  refine lv_iadd C.1 C.2.1 (zdaP zDL2 558 (by decide) rfl rfl) ?_
  refine va_sld C.1 C.2.1 hX hbl hbA hv.2.2.2.1 (vp_in_iff.mpr ⟨by rw [show Int32.ofInt 1 = Int32.ofInt ((1 : Nat) : Int) by decide, zsc1 hi (by decide)]; omega, by rw [show Int32.ofInt 1 = Int32.ofInt ((1 : Nat) : Int) by decide, zsc1 hi (by decide)]; omega⟩) (zdaP zDL2 559 (by decide) rfl rfl) ?_
  have hvA := hv
  refine zV_callV C (zcx_X7_ill E (d := 4) (by decide) (x0 := xs (Int32.ofNat i + Int32.ofInt 1).toNatClampNeg) (fun J => (yRm_F (yRm_B (B' := yBG) (fun _ h => h.1) (yill (I := xb_I f g0) (x := xs (Int32.ofNat i + Int32.ofInt 1).toNatClampNeg) hP hB.1))) J _ xz_Rok)) rfl rfl (by decide) (by decide) (show vwCl[7]? = some (RX7, TX7, 16) from rfl) zw640 zw637 zw638 zw639 zw1 (n := 1) (by decide +kernel) (zdaP zDL2 560 (by decide) rfl rfl) rfl zvk0 (show 0 < 126 by decide) hv hlv.1 (by show 0 ≤ 8; decide) (by show 0 + K ≤ 601024; omega) (by show 0 + S ≤ 7293034; omega) (fun v f9 g9 ws H locs hp hv => ?_)
  obtain ⟨⟨a1, I1, rfl, hPo, hag⟩, h4a, h5a⟩ := hp
  have hq := hPo _ (xz_e hv hag) (xm_fr hvA hv h4a h5a) (yBG_of (xz_bd hv))
  have hvB := hv
  refine lv_pop C.1 C.2.1 (zdaP zDL2 563 (by decide) rfl rfl) rfl ?_
  refine lv_aload_n C.1 C.2.1 (zdaP zDL2 564 (by decide) rfl rfl) rfl (lv_at hlv 3 rfl) ?_
  refine lv_aload_n C.1 C.2.1 (zdaP zDL2 565 (by decide) rfl rfl) rfl (lv_at hlv 1 rfl) ?_
  refine lv_iload C.1 C.2.1 (zdaP zDL2 566 (by decide) rfl rfl) (lv_at hlv 0 rfl) ?_
  refine lv_iconst C.1 C.2.1 (zdaP zDL2 568 (by decide) rfl rfl) rfl ?_
  refine lv_iadd C.1 C.2.1 (zdaP zDL2 569 (by decide) rfl rfl) ?_
  refine va_sld C.1 C.2.1 hX hbl hbA hv.2.2.2.1 (vp_in_iff.mpr ⟨by rw [show Int32.ofInt 1 = Int32.ofInt ((1 : Nat) : Int) by decide, zsc1 hi (by decide)]; omega, by rw [show Int32.ofInt 1 = Int32.ofInt ((1 : Nat) : Int) by decide, zsc1 hi (by decide)]; omega⟩) (zdaP zDL2 570 (by decide) rfl rfl) ?_
  refine zV_callV C (zcx_X8_ill E (d := 4) (by decide) (x0 := xs (Int32.ofNat i + Int32.ofInt 1).toNatClampNeg) (fun J => hq J _ xz_Rok)) rfl rfl (by decide) (by decide) (show vwCl[8]? = some (RX8, TX8, 51) from rfl) zw1472 zw1469 zw1470 zw1471 zw16 (n := 1) (by decide +kernel) (zdaP zDL2 571 (by decide) rfl rfl) rfl zvk94 (show 94 < 126 by decide) hv hlv.1 (by show 0 ≤ 8; decide) (by show 0 + K ≤ 601024; omega) (by show 0 + S ≤ 7293034; omega) (fun v f9 g9 ws H locs hp hv => ?_)
  obtain ⟨⟨a2, I2, rfl, ⟨hab, hP2⟩, hag2⟩, h4b, h5b⟩ := hp
  have hP3 := hP2 _ (xz_e hv hag2) (xm_fr hvB hv h4b h5b) (yBG_of (xz_bd hv))
  refine lv_pop C.1 C.2.1 (zdaP zDL2 574 (by decide) rfl rfl) rfl ?_
  refine lv_goto C.1 C.2.1 (zdaP zDL2 575 (by decide) rfl rfl) (tgt := 1436) (by decide) ?_
  refine lv_iinc C.1 C.2.1 (zdaP zDL5 1436 (by decide) rfl rfl) hlv (k := 0) rfl rfl (by decide) (lv' := [(4, .int ((Int32.ofNat i) + Int32.ofInt 5)), (0, .ref o.1), (1, .ref (bb 0)), (2, .ref (bb 94)), (3, .ref (bb 125))]) rfl (fun ls hlv => ?_)
  rw [zinc5 hi] at hlv
  refine lv_goto C.1 C.2.1 (zdaP zDL5 1439 (by decide) rfl rfl) (tgt := 23) (by decide) ?_
  exact zcl9 (by omega) hn hlv hv (zqJ_of hv hP3)
set_option maxHeartbeats 8000000 in
theorem zsx_nights (E : zEnv tys) (C : zCx p room_1 s m #[Value.ref b] meth c0 D vwCl tys z (zXX o z) zTs RL cL_law 8 nm) (hX : va_X o.1 L xs s s.heap) (hbl : o.1 < s.heap.size) (hbA : ¬ zA z o.1) (hL : L ≤ 2560) {b1 b2 : zI} : zSpec p l e s m b below meth c0 D tys o z L xs zyI zqJ (.ofNat 11, .ofNat 11) b1 b2 := by
  intro i K S g ls H locs ws hg h5 hi hK hS hj hm1 hm2 vst S0 hR hn
  obtain ⟨⟨xj, rfl, hxj⟩, hlv, hv⟩ := zop9 hg S0
  have hP : yF (xb_I (zwV ws) (zwA ws)) := zqP_of hR
  generalize hfe : zwV ws = f at *
  generalize hge : zwA ws = g0 at *
  generalize hbe : zwB ws = bb at *
  have hB := yBG_of (xz_bd hv)
  have hxj2 : xj.toInt = 11 := by
    obtain ⟨q1, q2⟩ := hxj
    have q1 : (11 : Int) ≤ xj.toInt := q1
    have q2 : xj.toInt ≤ (11 : Int) := q2
    omega
  refine lv_tableIn C.1 C.2.1 (zdaP zDL0 39 (by decide) rfl rfl) (by rw [hxj2]; decide) (by rw [hxj2]; decide) (off := 539) (by rw [hxj2]; rfl) (tgt := 578) (by decide) ?_
  refine lv_aload_n C.1 C.2.1 (zdaP zDL2 578 (by decide) rfl rfl) rfl (lv_at hlv 2 rfl) ?_
  refine lv_aload_n C.1 C.2.1 (zdaP zDL2 579 (by decide) rfl rfl) rfl (lv_at hlv 1 rfl) ?_
  refine lv_iload C.1 C.2.1 (zdaP zDL2 580 (by decide) rfl rfl) (lv_at hlv 0 rfl) ?_
  refine lv_iconst C.1 C.2.1 (zdaP zDL2 582 (by decide) rfl rfl) rfl ?_
  refine lv_iadd C.1 C.2.1 (zdaP zDL2 583 (by decide) rfl rfl) ?_
  refine va_sld C.1 C.2.1 hX hbl hbA hv.2.2.2.1 (vp_in_iff.mpr ⟨by rw [show Int32.ofInt 1 = Int32.ofInt ((1 : Nat) : Int) by decide, zsc1 hi (by decide)]; omega, by rw [show Int32.ofInt 1 = Int32.ofInt ((1 : Nat) : Int) by decide, zsc1 hi (by decide)]; omega⟩) (zdaP zDL2 584 (by decide) rfl rfl) ?_
  have hvA := hv
  refine zV_callV C (zcx_X7_nights E (d := 7) (by decide) (x0 := xs (Int32.ofNat i + Int32.ofInt 1).toNatClampNeg) (fun J => (yRm_F (yRm_B (B' := yBG) (fun _ h => h.1) (ynights (I := xb_I f g0) (x := xs (Int32.ofNat i + Int32.ofInt 1).toNatClampNeg) hP hB.1))) J _ xz_Rok)) rfl rfl (by decide) (by decide) (show vwCl[7]? = some (RX7, TX7, 16) from rfl) zw649 zw646 zw647 zw648 zw1 (n := 1) (by decide +kernel) (zdaP zDL2 585 (by decide) rfl rfl) rfl zvk0 (show 0 < 126 by decide) hv hlv.1 (by show 0 ≤ 8; decide) (by show 0 + K ≤ 601024; omega) (by show 0 + S ≤ 7293034; omega) (fun v f9 g9 ws H locs hp hv => ?_)
  obtain ⟨⟨a1, I1, rfl, hPo, hag⟩, h4a, h5a⟩ := hp
  have hq := hPo _ (xz_e hv hag) (xm_fr hvA hv h4a h5a) (yBG_of (xz_bd hv))
  have hvB := hv
  refine lv_pop C.1 C.2.1 (zdaP zDL2 588 (by decide) rfl rfl) rfl ?_
  refine lv_aload_n C.1 C.2.1 (zdaP zDL2 589 (by decide) rfl rfl) rfl (lv_at hlv 3 rfl) ?_
  refine lv_aload_n C.1 C.2.1 (zdaP zDL2 590 (by decide) rfl rfl) rfl (lv_at hlv 1 rfl) ?_
  refine lv_iload C.1 C.2.1 (zdaP zDL2 591 (by decide) rfl rfl) (lv_at hlv 0 rfl) ?_
  refine lv_iconst C.1 C.2.1 (zdaP zDL2 593 (by decide) rfl rfl) rfl ?_
  refine lv_iadd C.1 C.2.1 (zdaP zDL2 594 (by decide) rfl rfl) ?_
  refine va_sld C.1 C.2.1 hX hbl hbA hv.2.2.2.1 (vp_in_iff.mpr ⟨by rw [show Int32.ofInt 1 = Int32.ofInt ((1 : Nat) : Int) by decide, zsc1 hi (by decide)]; omega, by rw [show Int32.ofInt 1 = Int32.ofInt ((1 : Nat) : Int) by decide, zsc1 hi (by decide)]; omega⟩) (zdaP zDL2 595 (by decide) rfl rfl) ?_
  refine zV_callV C (zcx_X8_nights E (d := 176) (by decide) (x0 := xs (Int32.ofNat i + Int32.ofInt 1).toNatClampNeg) (fun J => hq J _ xz_Rok)) rfl rfl (by decide) (by decide) (show vwCl[8]? = some (RX8, TX8, 51) from rfl) zw1480 zw1477 zw1478 zw1479 zw16 (n := 1) (by decide +kernel) (zdaP zDL2 596 (by decide) rfl rfl) rfl zvk94 (show 94 < 126 by decide) hv hlv.1 (by show 0 ≤ 8; decide) (by show 0 + K ≤ 601024; omega) (by show 0 + S ≤ 7293034; omega) (fun v f9 g9 ws H locs hp hv => ?_)
  obtain ⟨⟨a2, I2, rfl, ⟨hab, hP2⟩, hag2⟩, h4b, h5b⟩ := hp
  have hP3 := hP2 _ (xz_e hv hag2) (xm_fr hvB hv h4b h5b) (yBG_of (xz_bd hv))
  refine lv_pop C.1 C.2.1 (zdaP zDL2 599 (by decide) rfl rfl) rfl ?_
  refine lv_goto C.1 C.2.1 (zdaP zDL2 600 (by decide) rfl rfl) (tgt := 1436) (by decide) ?_
  refine lv_iinc C.1 C.2.1 (zdaP zDL5 1436 (by decide) rfl rfl) hlv (k := 0) rfl rfl (by decide) (lv' := [(4, .int ((Int32.ofNat i) + Int32.ofInt 5)), (0, .ref o.1), (1, .ref (bb 0)), (2, .ref (bb 94)), (3, .ref (bb 125))]) rfl (fun ls hlv => ?_)
  rw [zinc5 hi] at hlv
  refine lv_goto C.1 C.2.1 (zdaP zDL5 1439 (by decide) rfl rfl) (tgt := 23) (by decide) ?_
  exact zcl9 (by omega) hn hlv hv (zqJ_of hv hP3)
set_option maxHeartbeats 8000000 in
theorem zsx_year (E : zEnv tys) (C : zCx p room_1 s m #[Value.ref b] meth c0 D vwCl tys z (zXX o z) zTs RL cL_law 8 nm) (hX : va_X o.1 L xs s s.heap) (hbl : o.1 < s.heap.size) (hbA : ¬ zA z o.1) (hL : L ≤ 2560) {b1 b2 : zI} : zSpec p l e s m b below meth c0 D tys o z L xs zyI zqJ (.ofNat 12, .ofNat 12) b1 b2 := by
  intro i K S g ls H locs ws hg h5 hi hK hS hj hm1 hm2 vst S0 hR hn
  obtain ⟨⟨xj, rfl, hxj⟩, hlv, hv⟩ := zop9 hg S0
  have hP : yF (xb_I (zwV ws) (zwA ws)) := zqP_of hR
  generalize hfe : zwV ws = f at *
  generalize hge : zwA ws = g0 at *
  generalize hbe : zwB ws = bb at *
  have hB := yBG_of (xz_bd hv)
  have hxj2 : xj.toInt = 12 := by
    obtain ⟨q1, q2⟩ := hxj
    have q1 : (12 : Int) ≤ xj.toInt := q1
    have q2 : xj.toInt ≤ (12 : Int) := q2
    omega
  refine lv_tableIn C.1 C.2.1 (zdaP zDL0 39 (by decide) rfl rfl) (by rw [hxj2]; decide) (by rw [hxj2]; decide) (off := 564) (by rw [hxj2]; rfl) (tgt := 603) (by decide) ?_
  refine lv_aload_n C.1 C.2.1 (zdaP zDL2 603 (by decide) rfl rfl) rfl (lv_at hlv 2 rfl) ?_
  have hvA := hv
  refine zV_callV C (zcx_X7_year E (d := 8) (by decide) (fun J => (yRm_F (yRm_B (B' := yBG) (fun _ h => h.1) (yyearF (I := xb_I f g0) hP hB.1))) J _ xz_Rok)) rfl rfl (by decide) (by decide) (show vwCl[7]? = some (RX7, TX7, 16) from rfl) zw698 zw695 zw696 zw697 zw1 (n := 0) (by decide +kernel) (zdaP zDL2 604 (by decide) rfl rfl) rfl zvk0 (show 0 < 126 by decide) hv hlv.1 (by show 0 ≤ 8; decide) (by show 0 + K ≤ 601024; omega) (by show 0 + S ≤ 7293034; omega) (fun v f9 g9 ws H locs hp hv => ?_)
  obtain ⟨⟨a1, I1, rfl, hPo, hag⟩, h4a, h5a⟩ := hp
  have hq := hPo _ (xz_e hv hag) (xm_fr hvA hv h4a h5a) (yBG_of (xz_bd hv))
  have hvB := hv
  refine lv_pop C.1 C.2.1 (zdaP zDL2 607 (by decide) rfl rfl) rfl ?_
  refine lv_aload_n C.1 C.2.1 (zdaP zDL2 608 (by decide) rfl rfl) rfl (lv_at hlv 3 rfl) ?_
  refine zV_callV C (zcx_X8_year E (d := 177) (by decide) (fun J => hq J _ xz_Rok)) rfl rfl (by decide) (by decide) (show vwCl[8]? = some (RX8, TX8, 51) from rfl) zw1504 zw1501 zw1502 zw1503 zw16 (n := 0) (by decide +kernel) (zdaP zDL2 609 (by decide) rfl rfl) rfl zvk94 (show 94 < 126 by decide) hv hlv.1 (by show 0 ≤ 8; decide) (by show 0 + K ≤ 601024; omega) (by show 0 + S ≤ 7293034; omega) (fun v f9 g9 ws H locs hp hv => ?_)
  obtain ⟨⟨a2, I2, rfl, ⟨hab, hP2⟩, hag2⟩, h4b, h5b⟩ := hp
  have hP3 := hP2 _ (xz_e hv hag2) (xm_fr hvB hv h4b h5b) (yBG_of (xz_bd hv))
  refine lv_pop C.1 C.2.1 (zdaP zDL2 612 (by decide) rfl rfl) rfl ?_
  refine lv_goto C.1 C.2.1 (zdaP zDL2 613 (by decide) rfl rfl) (tgt := 1436) (by decide) ?_
  refine lv_iinc C.1 C.2.1 (zdaP zDL5 1436 (by decide) rfl rfl) hlv (k := 0) rfl rfl (by decide) (lv' := [(4, .int ((Int32.ofNat i) + Int32.ofInt 5)), (0, .ref o.1), (1, .ref (bb 0)), (2, .ref (bb 94)), (3, .ref (bb 125))]) rfl (fun ls hlv => ?_)
  rw [zinc5 hi] at hlv
  refine lv_goto C.1 C.2.1 (zdaP zDL5 1439 (by decide) rfl rfl) (tgt := 23) (by decide) ?_
  exact zcl9 (by omega) hn hlv hv (zqJ_of hv hP3)
set_option maxHeartbeats 8000000 in
theorem zsx_undo (E : zEnv tys) (C : zCx p room_1 s m #[Value.ref b] meth c0 D vwCl tys z (zXX o z) zTs RL cL_law 8 nm) (hX : va_X o.1 L xs s s.heap) (hbl : o.1 < s.heap.size) (hbA : ¬ zA z o.1) (hL : L ≤ 2560) {b1 b2 : zI} : zSpec p l e s m b below meth c0 D tys o z L xs zyI zqJ (.ofNat 13, .ofNat 13) b1 b2 := by
  intro i K S g ls H locs ws hg h5 hi hK hS hj hm1 hm2 vst S0 hR hn
  obtain ⟨⟨xj, rfl, hxj⟩, hlv, hv⟩ := zop9 hg S0
  have hP : yF (xb_I (zwV ws) (zwA ws)) := zqP_of hR
  generalize hfe : zwV ws = f at *
  generalize hge : zwA ws = g0 at *
  generalize hbe : zwB ws = bb at *
  have hB := yBG_of (xz_bd hv)
  have hxj2 : xj.toInt = 13 := by
    obtain ⟨q1, q2⟩ := hxj
    have q1 : (13 : Int) ≤ xj.toInt := q1
    have q2 : xj.toInt ≤ (13 : Int) := q2
    omega
  refine lv_tableIn C.1 C.2.1 (zdaP zDL0 39 (by decide) rfl rfl) (by rw [hxj2]; decide) (by rw [hxj2]; decide) (off := 577) (by rw [hxj2]; rfl) (tgt := 616) (by decide) ?_
  refine lv_aload_n C.1 C.2.1 (zdaP zDL2 616 (by decide) rfl rfl) rfl (lv_at hlv 2 rfl) ?_
  have hvA := hv
  refine zV_callV C (zcx_X7_undo E (d := 3) (by decide) (fun J => (yRm_F (yRm_B (B' := yBG) (fun _ h => h.1) (yundo (I := xb_I f g0) hP hB.1))) J _ xz_Rok)) rfl rfl (by decide) (by decide) (show vwCl[7]? = some (RX7, TX7, 16) from rfl) zw726 zw723 zw724 zw725 zw1 (n := 0) (by decide +kernel) (zdaP zDL2 617 (by decide) rfl rfl) rfl zvk0 (show 0 < 126 by decide) hv hlv.1 (by show 0 ≤ 8; decide) (by show 0 + K ≤ 601024; omega) (by show 0 + S ≤ 7293034; omega) (fun v f9 g9 ws H locs hp hv => ?_)
  obtain ⟨⟨a1, I1, rfl, hPo, hag⟩, h4a, h5a⟩ := hp
  have hq := hPo _ (xz_e hv hag) (xm_fr hvA hv h4a h5a) (yBG_of (xz_bd hv))
  have hvB := hv
  refine lv_pop C.1 C.2.1 (zdaP zDL2 620 (by decide) rfl rfl) rfl ?_
  refine lv_aload_n C.1 C.2.1 (zdaP zDL2 621 (by decide) rfl rfl) rfl (lv_at hlv 3 rfl) ?_
  refine zV_callV C (zcx_X8_undo E (d := 1) (by decide) (fun J => hq J _ xz_Rok)) rfl rfl (by decide) (by decide) (show vwCl[8]? = some (RX8, TX8, 51) from rfl) zw1524 zw1521 zw1522 zw1523 zw16 (n := 0) (by decide +kernel) (zdaP zDL2 622 (by decide) rfl rfl) rfl zvk94 (show 94 < 126 by decide) hv hlv.1 (by show 0 ≤ 8; decide) (by show 0 + K ≤ 601024; omega) (by show 0 + S ≤ 7293034; omega) (fun v f9 g9 ws H locs hp hv => ?_)
  obtain ⟨⟨a2, I2, rfl, ⟨hab, hP2⟩, hag2⟩, h4b, h5b⟩ := hp
  have hP3 := hP2 _ (xz_e hv hag2) (xm_fr hvB hv h4b h5b) (yBG_of (xz_bd hv))
  refine lv_pop C.1 C.2.1 (zdaP zDL2 625 (by decide) rfl rfl) rfl ?_
  refine lv_goto C.1 C.2.1 (zdaP zDL2 626 (by decide) rfl rfl) (tgt := 1436) (by decide) ?_
  refine lv_iinc C.1 C.2.1 (zdaP zDL5 1436 (by decide) rfl rfl) hlv (k := 0) rfl rfl (by decide) (lv' := [(4, .int ((Int32.ofNat i) + Int32.ofInt 5)), (0, .ref o.1), (1, .ref (bb 0)), (2, .ref (bb 94)), (3, .ref (bb 125))]) rfl (fun ls hlv => ?_)
  rw [zinc5 hi] at hlv
  refine lv_goto C.1 C.2.1 (zdaP zDL5 1439 (by decide) rfl rfl) (tgt := 23) (by decide) ?_
  exact zcl9 (by omega) hn hlv hv (zqJ_of hv hP3)
set_option maxHeartbeats 8000000 in
theorem zsx_gaps (E : zEnv tys) (C : zCx p room_1 s m #[Value.ref b] meth c0 D vwCl tys z (zXX o z) zTs RL cL_law 8 nm) (hX : va_X o.1 L xs s s.heap) (hbl : o.1 < s.heap.size) (hbA : ¬ zA z o.1) (hL : L ≤ 2560) {b1 b2 : zI} : zSpec p l e s m b below meth c0 D tys o z L xs zyI zqJ (.ofNat 14, .ofNat 14) b1 b2 := by
  intro i K S g ls H locs ws hg h5 hi hK hS hj hm1 hm2 vst S0 hR hn
  obtain ⟨⟨xj, rfl, hxj⟩, hlv, hv⟩ := zop9 hg S0
  have hP : yF (xb_I (zwV ws) (zwA ws)) := zqP_of hR
  generalize hfe : zwV ws = f at *
  generalize hge : zwA ws = g0 at *
  generalize hbe : zwB ws = bb at *
  have hB := yBG_of (xz_bd hv)
  have hxj2 : xj.toInt = 14 := by
    obtain ⟨q1, q2⟩ := hxj
    have q1 : (14 : Int) ≤ xj.toInt := q1
    have q2 : xj.toInt ≤ (14 : Int) := q2
    omega
  refine lv_tableIn C.1 C.2.1 (zdaP zDL0 39 (by decide) rfl rfl) (by rw [hxj2]; decide) (by rw [hxj2]; decide) (off := 590) (by rw [hxj2]; rfl) (tgt := 629) (by decide) ?_
  refine lv_aload_n C.1 C.2.1 (zdaP zDL2 629 (by decide) rfl rfl) rfl (lv_at hlv 2 rfl) ?_
  have hvA := hv
  refine zV_callV C (zcx_X7_gaps E (d := 5) (by decide) (fun J => (yRm_B (B' := yBG) (fun _ h => h.1) (ygapsF (I := xb_I f g0) hP hB.1)) J _ xz_Rok)) rfl rfl (by decide) (by decide) (show vwCl[7]? = some (RX7, TX7, 16) from rfl) zw734 zw731 zw732 zw733 zw1 (n := 0) (by decide +kernel) (zdaP zDL2 630 (by decide) rfl rfl) rfl zvk0 (show 0 < 126 by decide) hv hlv.1 (by show 0 ≤ 8; decide) (by show 0 + K ≤ 601024; omega) (by show 0 + S ≤ 7293034; omega) (fun v f9 g9 ws H locs hp hv => ?_)
  obtain ⟨⟨a1, I1, rfl, hPo, hag⟩, h4a, h5a⟩ := hp
  have hq := hPo _ (xz_e hv hag) (xm_fr hvA hv h4a h5a) (yBG_of (xz_bd hv))
  have hvB := hv
  refine lv_aload_n C.1 C.2.1 (zdaP zDL2 633 (by decide) rfl rfl) rfl (lv_at hlv 3 rfl) ?_
  refine zV_callV C (zcx_X8_gaps E (d := 175) (by decide) (fun J => hq J _ xz_Rok)) rfl rfl (by decide) (by decide) (show vwCl[8]? = some (RX8, TX8, 51) from rfl) zw1528 zw1525 zw1526 zw1527 zw16 (n := 0) (by decide +kernel) (zdaP zDL2 634 (by decide) rfl rfl) rfl zvk94 (show 94 < 126 by decide) hv hlv.1 (by show 1 ≤ 8; decide) (by show 0 + K ≤ 601024; omega) (by show 0 + S ≤ 7293034; omega) (fun v f9 g9 ws H locs hp hv => ?_)
  obtain ⟨⟨a2, I2, rfl, ⟨hab, hP2⟩, hag2⟩, h4b, h5b⟩ := hp
  have hP3 := hP2 _ (xz_e hv hag2) (xm_fr hvB hv h4b h5b) (yBG_of (xz_bd hv))
  refine lv_icmp_eq C.1 C.2.1 (zdaP zDL2 637 (by decide) rfl rfl) (tgt := 1436) (by decide) (fun h637 => ?_) (fun h637 => ?_)
  · refine lv_iinc C.1 C.2.1 (zdaP zDL5 1436 (by decide) rfl rfl) hlv (k := 0) rfl rfl (by decide) (lv' := [(4, .int ((Int32.ofNat i) + Int32.ofInt 5)), (0, .ref o.1), (1, .ref (bb 0)), (2, .ref (bb 94)), (3, .ref (bb 125))]) rfl (fun ls hlv => ?_)
    rw [zinc5 hi] at hlv
    refine lv_goto C.1 C.2.1 (zdaP zDL5 1439 (by decide) rfl rfl) (tgt := 23) (by decide) ?_
    exact zcl9 (by omega) hn hlv hv (zqJ_of hv hP3)
  · exact absurd (hab trivial) h637
set_option maxHeartbeats 8000000 in
theorem zsx_takes (E : zEnv tys) (C : zCx p room_1 s m #[Value.ref b] meth c0 D vwCl tys z (zXX o z) zTs RL cL_law 8 nm) (hX : va_X o.1 L xs s s.heap) (hbl : o.1 < s.heap.size) (hbA : ¬ zA z o.1) (hL : L ≤ 2560) {b1 b2 : zI} : zSpec p l e s m b below meth c0 D tys o z L xs zyI zqJ (.ofNat 24, .ofNat 24) b1 b2 := by
  intro i K S g ls H locs ws hg h5 hi hK hS hj hm1 hm2 vst S0 hR hn
  obtain ⟨⟨xj, rfl, hxj⟩, hlv, hv⟩ := zop9 hg S0
  have hP : yF (xb_I (zwV ws) (zwA ws)) := zqP_of hR
  generalize hfe : zwV ws = f at *
  generalize hge : zwA ws = g0 at *
  generalize hbe : zwB ws = bb at *
  have hB := yBG_of (xz_bd hv)
  have hxj2 : xj.toInt = 24 := by
    obtain ⟨q1, q2⟩ := hxj
    have q1 : (24 : Int) ≤ xj.toInt := q1
    have q2 : xj.toInt ≤ (24 : Int) := q2
    omega
  refine lv_tableIn C.1 C.2.1 (zdaP zDL0 39 (by decide) rfl rfl) (by rw [hxj2]; decide) (by rw [hxj2]; decide) (off := 768) (by rw [hxj2]; rfl) (tgt := 807) (by decide) ?_
  refine lv_aload_n C.1 C.2.1 (zdaP zDL3 807 (by decide) rfl rfl) rfl (lv_at hlv 2 rfl) ?_
  have hvA := hv
  refine zV_callV C (zcx_X7_takes E (d := 8) (by decide) (fun J => (yRm_F (ytakesF (I := xb_I f g0) hP hB)) J _ xz_Rok)) rfl rfl (by decide) (by decide) (show vwCl[7]? = some (RX7, TX7, 16) from rfl) zw883 zw880 zw881 zw882 zw1 (n := 0) (by decide +kernel) (zdaP zDL3 808 (by decide) rfl rfl) rfl zvk0 (show 0 < 126 by decide) hv hlv.1 (by show 0 ≤ 8; decide) (by show 0 + K ≤ 601024; omega) (by show 0 + S ≤ 7293034; omega) (fun v f9 g9 ws H locs hp hv => ?_)
  obtain ⟨⟨a1, I1, rfl, hPo, hag⟩, h4a, h5a⟩ := hp
  have hq := hPo _ (xz_e hv hag) (xm_fr hvA hv h4a h5a) (yBG_of (xz_bd hv))
  have hvB := hv
  refine lv_pop C.1 C.2.1 (zdaP zDL3 811 (by decide) rfl rfl) rfl ?_
  refine lv_aload_n C.1 C.2.1 (zdaP zDL3 812 (by decide) rfl rfl) rfl (lv_at hlv 3 rfl) ?_
  refine zV_callV C (zcx_X8_takes E (d := 175) (by decide) (fun J => hq J _ xz_Rok)) rfl rfl (by decide) (by decide) (show vwCl[8]? = some (RX8, TX8, 51) from rfl) zw1636 zw1633 zw1634 zw1635 zw16 (n := 0) (by decide +kernel) (zdaP zDL3 813 (by decide) rfl rfl) rfl zvk94 (show 94 < 126 by decide) hv hlv.1 (by show 0 ≤ 8; decide) (by show 0 + K ≤ 601024; omega) (by show 0 + S ≤ 7293034; omega) (fun v f9 g9 ws H locs hp hv => ?_)
  obtain ⟨⟨a2, I2, rfl, ⟨hab, hP2⟩, hag2⟩, h4b, h5b⟩ := hp
  have hP3 := hP2 _ (xz_e hv hag2) (xm_fr hvB hv h4b h5b) (yBG_of (xz_bd hv))
  refine lv_pop C.1 C.2.1 (zdaP zDL3 816 (by decide) rfl rfl) rfl ?_
  refine lv_goto C.1 C.2.1 (zdaP zDL3 817 (by decide) rfl rfl) (tgt := 1436) (by decide) ?_
  refine lv_iinc C.1 C.2.1 (zdaP zDL5 1436 (by decide) rfl rfl) hlv (k := 0) rfl rfl (by decide) (lv' := [(4, .int ((Int32.ofNat i) + Int32.ofInt 5)), (0, .ref o.1), (1, .ref (bb 0)), (2, .ref (bb 94)), (3, .ref (bb 125))]) rfl (fun ls hlv => ?_)
  rw [zinc5 hi] at hlv
  refine lv_goto C.1 C.2.1 (zdaP zDL5 1439 (by decide) rfl rfl) (tgt := 23) (by decide) ?_
  exact zcl9 (by omega) hn hlv hv (zqJ_of hv hP3)
set_option maxHeartbeats 8000000 in
theorem zsx_law (E : zEnv tys) (C : zCx p room_1 s m #[Value.ref b] meth c0 D vwCl tys z (zXX o z) zTs RL cL_law 8 nm) (hX : va_X o.1 L xs s s.heap) (hbl : o.1 < s.heap.size) (hbA : ¬ zA z o.1) (hL : L ≤ 2560) {b1 b2 : zI} : zSpec p l e s m b below meth c0 D tys o z L xs zyI zqJ (.ofNat 44, .ofNat 44) b1 b2 := by
  intro i K S g ls H locs ws hg h5 hi hK hS hj hm1 hm2 vst S0 hR hn
  obtain ⟨⟨xj, rfl, hxj⟩, hlv, hv⟩ := zop9 hg S0
  have hP : yF (xb_I (zwV ws) (zwA ws)) := zqP_of hR
  generalize hfe : zwV ws = f at *
  generalize hge : zwA ws = g0 at *
  generalize hbe : zwB ws = bb at *
  have hB := yBG_of (xz_bd hv)
  have hxj2 : xj.toInt = 44 := by
    obtain ⟨q1, q2⟩ := hxj
    have q1 : (44 : Int) ≤ xj.toInt := q1
    have q2 : xj.toInt ≤ (44 : Int) := q2
    omega
  refine lv_tableIn C.1 C.2.1 (zdaP zDL0 39 (by decide) rfl rfl) (by rw [hxj2]; decide) (by rw [hxj2]; decide) (off := 1244) (by rw [hxj2]; rfl) (tgt := 1283) (by decide) ?_
  refine lv_aload_n C.1 C.2.1 (zdaP zDL5 1283 (by decide) rfl rfl) rfl (lv_at hlv 2 rfl) ?_
  have hvA := hv
  refine zV_callV C (zcx_X7_law E (d := 8) (by decide) (fun J => (yRm_F (ylawF (I := xb_I f g0) hP hB)) J _ xz_Rok)) rfl rfl (by decide) (by decide) (show vwCl[7]? = some (RX7, TX7, 16) from rfl) zw1051 zw1048 zw1049 zw1050 zw1 (n := 0) (by decide +kernel) (zdaP zDL5 1284 (by decide) rfl rfl) rfl zvk0 (show 0 < 126 by decide) hv hlv.1 (by show 0 ≤ 8; decide) (by show 0 + K ≤ 601024; omega) (by show 0 + S ≤ 7293034; omega) (fun v f9 g9 ws H locs hp hv => ?_)
  obtain ⟨⟨a1, I1, rfl, hPo, hag⟩, h4a, h5a⟩ := hp
  have hq := hPo _ (xz_e hv hag) (xm_fr hvA hv h4a h5a) (yBG_of (xz_bd hv))
  have hvB := hv
  refine lv_pop C.1 C.2.1 (zdaP zDL5 1287 (by decide) rfl rfl) rfl ?_
  refine lv_aload_n C.1 C.2.1 (zdaP zDL5 1288 (by decide) rfl rfl) rfl (lv_at hlv 3 rfl) ?_
  refine zV_callV C (zcx_X8_law E (d := 174) (by decide) (fun J => hq J _ xz_Rok)) rfl rfl (by decide) (by decide) (show vwCl[8]? = some (RX8, TX8, 51) from rfl) zw1760 zw1757 zw1758 zw1759 zw16 (n := 0) (by decide +kernel) (zdaP zDL5 1289 (by decide) rfl rfl) rfl zvk94 (show 94 < 126 by decide) hv hlv.1 (by show 0 ≤ 8; decide) (by show 0 + K ≤ 601024; omega) (by show 0 + S ≤ 7293034; omega) (fun v f9 g9 ws H locs hp hv => ?_)
  obtain ⟨⟨a2, I2, rfl, ⟨hab, hP2⟩, hag2⟩, h4b, h5b⟩ := hp
  have hP3 := hP2 _ (xz_e hv hag2) (xm_fr hvB hv h4b h5b) (yBG_of (xz_bd hv))
  refine lv_pop C.1 C.2.1 (zdaP zDL5 1292 (by decide) rfl rfl) rfl ?_
  refine lv_goto C.1 C.2.1 (zdaP zDL5 1293 (by decide) rfl rfl) (tgt := 1436) (by decide) ?_
  refine lv_iinc C.1 C.2.1 (zdaP zDL5 1436 (by decide) rfl rfl) hlv (k := 0) rfl rfl (by decide) (lv' := [(4, .int ((Int32.ofNat i) + Int32.ofInt 5)), (0, .ref o.1), (1, .ref (bb 0)), (2, .ref (bb 94)), (3, .ref (bb 125))]) rfl (fun ls hlv => ?_)
  rw [zinc5 hi] at hlv
  refine lv_goto C.1 C.2.1 (zdaP zDL5 1439 (by decide) rfl rfl) (tgt := 23) (by decide) ?_
  exact zcl9 (by omega) hn hlv hv (zqJ_of hv hP3)
set_option maxHeartbeats 8000000 in
theorem zsx_keep (E : zEnv tys) (C : zCx p room_1 s m #[Value.ref b] meth c0 D vwCl tys z (zXX o z) zTs RL cL_law 8 nm) (hX : va_X o.1 L xs s s.heap) (hbl : o.1 < s.heap.size) (hbA : ¬ zA z o.1) (hL : L ≤ 2560) {b1 b2 : zI} : zSpec p l e s m b below meth c0 D tys o z L xs zyI zqJ (.ofNat 46, .ofNat 46) b1 b2 := by
  intro i K S g ls H locs ws hg h5 hi hK hS hj hm1 hm2 vst S0 hR hn
  obtain ⟨⟨xj, rfl, hxj⟩, hlv, hv⟩ := zop9 hg S0
  have hP : yF (xb_I (zwV ws) (zwA ws)) := zqP_of hR
  generalize hfe : zwV ws = f at *
  generalize hge : zwA ws = g0 at *
  generalize hbe : zwB ws = bb at *
  have hB := yBG_of (xz_bd hv)
  have hxj2 : xj.toInt = 46 := by
    obtain ⟨q1, q2⟩ := hxj
    have q1 : (46 : Int) ≤ xj.toInt := q1
    have q2 : xj.toInt ≤ (46 : Int) := q2
    omega
  refine lv_tableIn C.1 C.2.1 (zdaP zDL0 39 (by decide) rfl rfl) (by rw [hxj2]; decide) (by rw [hxj2]; decide) (off := 1294) (by rw [hxj2]; rfl) (tgt := 1333) (by decide) ?_
  refine lv_aload_n C.1 C.2.1 (zdaP zDL5 1333 (by decide) rfl rfl) rfl (lv_at hlv 2 rfl) ?_
  refine lv_aload_n C.1 C.2.1 (zdaP zDL5 1334 (by decide) rfl rfl) rfl (lv_at hlv 1 rfl) ?_
  refine lv_iload C.1 C.2.1 (zdaP zDL5 1335 (by decide) rfl rfl) (lv_at hlv 0 rfl) ?_
  refine lv_iconst C.1 C.2.1 (zdaP zDL5 1337 (by decide) rfl rfl) rfl ?_
  refine lv_iadd C.1 C.2.1 (zdaP zDL5 1338 (by decide) rfl rfl) ?_
  refine va_sld C.1 C.2.1 hX hbl hbA hv.2.2.2.1 (vp_in_iff.mpr ⟨by rw [show Int32.ofInt 1 = Int32.ofInt ((1 : Nat) : Int) by decide, zsc1 hi (by decide)]; omega, by rw [show Int32.ofInt 1 = Int32.ofInt ((1 : Nat) : Int) by decide, zsc1 hi (by decide)]; omega⟩) (zdaP zDL5 1339 (by decide) rfl rfl) ?_
  have hvA := hv
  refine zV_callV C (zcx_X7_keep E (d := 2) (by decide) (x0 := xs (Int32.ofNat i + Int32.ofInt 1).toNatClampNeg) (fun J => (yRm_F (yRm_B (B' := yBG) (fun _ h => h.1) (ykeepF (I := xb_I f g0) (x := xs (Int32.ofNat i + Int32.ofInt 1).toNatClampNeg) hP hB.1))) J _ xz_Rok)) rfl rfl (by decide) (by decide) (show vwCl[7]? = some (RX7, TX7, 16) from rfl) zw1072 zw1069 zw1070 zw1071 zw1 (n := 1) (by decide +kernel) (zdaP zDL5 1340 (by decide) rfl rfl) rfl zvk0 (show 0 < 126 by decide) hv hlv.1 (by show 0 ≤ 8; decide) (by show 0 + K ≤ 601024; omega) (by show 0 + S ≤ 7293034; omega) (fun v f9 g9 ws H locs hp hv => ?_)
  obtain ⟨⟨a1, I1, rfl, hPo, hag⟩, h4a, h5a⟩ := hp
  have hq := hPo _ (xz_e hv hag) (xm_fr hvA hv h4a h5a) (yBG_of (xz_bd hv))
  have hvB := hv
  refine lv_pop C.1 C.2.1 (zdaP zDL5 1343 (by decide) rfl rfl) rfl ?_
  refine lv_aload_n C.1 C.2.1 (zdaP zDL5 1344 (by decide) rfl rfl) rfl (lv_at hlv 3 rfl) ?_
  refine lv_aload_n C.1 C.2.1 (zdaP zDL5 1345 (by decide) rfl rfl) rfl (lv_at hlv 1 rfl) ?_
  refine lv_iload C.1 C.2.1 (zdaP zDL5 1346 (by decide) rfl rfl) (lv_at hlv 0 rfl) ?_
  refine lv_iconst C.1 C.2.1 (zdaP zDL5 1348 (by decide) rfl rfl) rfl ?_
  refine lv_iadd C.1 C.2.1 (zdaP zDL5 1349 (by decide) rfl rfl) ?_
  refine va_sld C.1 C.2.1 hX hbl hbA hv.2.2.2.1 (vp_in_iff.mpr ⟨by rw [show Int32.ofInt 1 = Int32.ofInt ((1 : Nat) : Int) by decide, zsc1 hi (by decide)]; omega, by rw [show Int32.ofInt 1 = Int32.ofInt ((1 : Nat) : Int) by decide, zsc1 hi (by decide)]; omega⟩) (zdaP zDL5 1350 (by decide) rfl rfl) ?_
  refine zV_callV C (zcx_X8_keep E (d := 2) (by decide) (x0 := xs (Int32.ofNat i + Int32.ofInt 1).toNatClampNeg) (fun J => hq J _ xz_Rok)) rfl rfl (by decide) (by decide) (show vwCl[8]? = some (RX8, TX8, 51) from rfl) zw1777 zw1774 zw1775 zw1776 zw16 (n := 1) (by decide +kernel) (zdaP zDL5 1351 (by decide) rfl rfl) rfl zvk94 (show 94 < 126 by decide) hv hlv.1 (by show 0 ≤ 8; decide) (by show 0 + K ≤ 601024; omega) (by show 0 + S ≤ 7293034; omega) (fun v f9 g9 ws H locs hp hv => ?_)
  obtain ⟨⟨a2, I2, rfl, ⟨hab, hP2⟩, hag2⟩, h4b, h5b⟩ := hp
  have hP3 := hP2 _ (xz_e hv hag2) (xm_fr hvB hv h4b h5b) (yBG_of (xz_bd hv))
  refine lv_pop C.1 C.2.1 (zdaP zDL5 1354 (by decide) rfl rfl) rfl ?_
  refine lv_goto C.1 C.2.1 (zdaP zDL5 1355 (by decide) rfl rfl) (tgt := 1436) (by decide) ?_
  refine lv_iinc C.1 C.2.1 (zdaP zDL5 1436 (by decide) rfl rfl) hlv (k := 0) rfl rfl (by decide) (lv' := [(4, .int ((Int32.ofNat i) + Int32.ofInt 5)), (0, .ref o.1), (1, .ref (bb 0)), (2, .ref (bb 94)), (3, .ref (bb 125))]) rfl (fun ls hlv => ?_)
  rw [zinc5 hi] at hlv
  refine lv_goto C.1 C.2.1 (zdaP zDL5 1439 (by decide) rfl rfl) (tgt := 23) (by decide) ?_
  exact zcl9 (by omega) hn hlv hv (zqJ_of hv hP3)
set_option maxHeartbeats 8000000 in
theorem zsx_again (E : zEnv tys) (C : zCx p room_1 s m #[Value.ref b] meth c0 D vwCl tys z (zXX o z) zTs RL cL_law 8 nm) (hX : va_X o.1 L xs s s.heap) (hbl : o.1 < s.heap.size) (hbA : ¬ zA z o.1) (hL : L ≤ 2560) {b1 b2 : zI} : zSpec p l e s m b below meth c0 D tys o z L xs zyI zqJ (.ofNat 47, .ofNat 47) b1 b2 := by
  intro i K S g ls H locs ws hg h5 hi hK hS hj hm1 hm2 vst S0 hR hn
  obtain ⟨⟨xj, rfl, hxj⟩, hlv, hv⟩ := zop9 hg S0
  have hP : yF (xb_I (zwV ws) (zwA ws)) := zqP_of hR
  generalize hfe : zwV ws = f at *
  generalize hge : zwA ws = g0 at *
  generalize hbe : zwB ws = bb at *
  have hB := yBG_of (xz_bd hv)
  have hxj2 : xj.toInt = 47 := by
    obtain ⟨q1, q2⟩ := hxj
    have q1 : (47 : Int) ≤ xj.toInt := q1
    have q2 : xj.toInt ≤ (47 : Int) := q2
    omega
  refine lv_tableIn C.1 C.2.1 (zdaP zDL0 39 (by decide) rfl rfl) (by rw [hxj2]; decide) (by rw [hxj2]; decide) (off := 1319) (by rw [hxj2]; rfl) (tgt := 1358) (by decide) ?_
  refine lv_aload_n C.1 C.2.1 (zdaP zDL5 1358 (by decide) rfl rfl) rfl (lv_at hlv 2 rfl) ?_
  refine lv_aload_n C.1 C.2.1 (zdaP zDL5 1359 (by decide) rfl rfl) rfl (lv_at hlv 1 rfl) ?_
  refine lv_iload C.1 C.2.1 (zdaP zDL5 1360 (by decide) rfl rfl) (lv_at hlv 0 rfl) ?_
  refine lv_iconst C.1 C.2.1 (zdaP zDL5 1362 (by decide) rfl rfl) rfl ?_
  refine lv_iadd C.1 C.2.1 (zdaP zDL5 1363 (by decide) rfl rfl) ?_
  refine va_sld C.1 C.2.1 hX hbl hbA hv.2.2.2.1 (vp_in_iff.mpr ⟨by rw [show Int32.ofInt 1 = Int32.ofInt ((1 : Nat) : Int) by decide, zsc1 hi (by decide)]; omega, by rw [show Int32.ofInt 1 = Int32.ofInt ((1 : Nat) : Int) by decide, zsc1 hi (by decide)]; omega⟩) (zdaP zDL5 1364 (by decide) rfl rfl) ?_
  have hvA := hv
  refine zV_callV C (zcx_X7_again E (d := 2) (by decide) (x0 := xs (Int32.ofNat i + Int32.ofInt 1).toNatClampNeg) (fun J => (yRm_F (yRm_B (B' := yBG) (fun _ h => h.1) (yagainF (I := xb_I f g0) (x := xs (Int32.ofNat i + Int32.ofInt 1).toNatClampNeg) hP hB.1))) J _ xz_Rok)) rfl rfl (by decide) (by decide) (show vwCl[7]? = some (RX7, TX7, 16) from rfl) zw1076 zw1073 zw1074 zw1075 zw1 (n := 1) (by decide +kernel) (zdaP zDL5 1365 (by decide) rfl rfl) rfl zvk0 (show 0 < 126 by decide) hv hlv.1 (by show 0 ≤ 8; decide) (by show 0 + K ≤ 601024; omega) (by show 0 + S ≤ 7293034; omega) (fun v f9 g9 ws H locs hp hv => ?_)
  obtain ⟨⟨a1, I1, rfl, hPo, hag⟩, h4a, h5a⟩ := hp
  have hq := hPo _ (xz_e hv hag) (xm_fr hvA hv h4a h5a) (yBG_of (xz_bd hv))
  have hvB := hv
  refine lv_pop C.1 C.2.1 (zdaP zDL5 1368 (by decide) rfl rfl) rfl ?_
  refine lv_aload_n C.1 C.2.1 (zdaP zDL5 1369 (by decide) rfl rfl) rfl (lv_at hlv 3 rfl) ?_
  refine lv_aload_n C.1 C.2.1 (zdaP zDL5 1370 (by decide) rfl rfl) rfl (lv_at hlv 1 rfl) ?_
  refine lv_iload C.1 C.2.1 (zdaP zDL5 1371 (by decide) rfl rfl) (lv_at hlv 0 rfl) ?_
  refine lv_iconst C.1 C.2.1 (zdaP zDL5 1373 (by decide) rfl rfl) rfl ?_
  refine lv_iadd C.1 C.2.1 (zdaP zDL5 1374 (by decide) rfl rfl) ?_
  refine va_sld C.1 C.2.1 hX hbl hbA hv.2.2.2.1 (vp_in_iff.mpr ⟨by rw [show Int32.ofInt 1 = Int32.ofInt ((1 : Nat) : Int) by decide, zsc1 hi (by decide)]; omega, by rw [show Int32.ofInt 1 = Int32.ofInt ((1 : Nat) : Int) by decide, zsc1 hi (by decide)]; omega⟩) (zdaP zDL5 1375 (by decide) rfl rfl) ?_
  refine zV_callV C (zcx_X8_again E (d := 2) (by decide) (x0 := xs (Int32.ofNat i + Int32.ofInt 1).toNatClampNeg) (fun J => hq J _ xz_Rok)) rfl rfl (by decide) (by decide) (show vwCl[8]? = some (RX8, TX8, 51) from rfl) zw1781 zw1778 zw1779 zw1780 zw16 (n := 1) (by decide +kernel) (zdaP zDL5 1376 (by decide) rfl rfl) rfl zvk94 (show 94 < 126 by decide) hv hlv.1 (by show 0 ≤ 8; decide) (by show 0 + K ≤ 601024; omega) (by show 0 + S ≤ 7293034; omega) (fun v f9 g9 ws H locs hp hv => ?_)
  obtain ⟨⟨a2, I2, rfl, ⟨hab, hP2⟩, hag2⟩, h4b, h5b⟩ := hp
  have hP3 := hP2 _ (xz_e hv hag2) (xm_fr hvB hv h4b h5b) (yBG_of (xz_bd hv))
  refine lv_pop C.1 C.2.1 (zdaP zDL5 1379 (by decide) rfl rfl) rfl ?_
  refine lv_goto C.1 C.2.1 (zdaP zDL5 1380 (by decide) rfl rfl) (tgt := 1436) (by decide) ?_
  refine lv_iinc C.1 C.2.1 (zdaP zDL5 1436 (by decide) rfl rfl) hlv (k := 0) rfl rfl (by decide) (lv' := [(4, .int ((Int32.ofNat i) + Int32.ofInt 5)), (0, .ref o.1), (1, .ref (bb 0)), (2, .ref (bb 94)), (3, .ref (bb 125))]) rfl (fun ls hlv => ?_)
  rw [zinc5 hi] at hlv
  refine lv_goto C.1 C.2.1 (zdaP zDL5 1439 (by decide) rfl rfl) (tgt := 23) (by decide) ?_
  exact zcl9 (by omega) hn hlv hv (zqJ_of hv hP3)
end ZRNX
