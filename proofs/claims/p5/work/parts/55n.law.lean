/-! ROUNDS OF THE LAW BY EXACT FUNCTIONS -/
noncomputable def zvf0 : List zAV := [.inr (.inr (.inl 1)), .inr (.inr (.inl 3)), .inr (.inr (.inl 15)), .inr (.inr (.inl 18)), .inr (.inr (.inl 21)), .inr (.inr (.inl 24)), .inr (.inr (.inl 62)), .inr (.inr (.inl 63)), .inr (.inr (.inl 64)), .inr (.inr (.inl 78)), .inr (.inr (.inl 80)), .inr (.inr (.inl 81)), .inr (.inr (.inl 82)), .inl ((.ofNat 0, .ofNat 12), none), .inr (.inr (.inl 83)), .inl ((.negSucc 2147483647, .ofNat 2147483647), none)]
set_option maxRecDepth 100000 in
theorem zvk0 : zrget zyI.2.1 0 = some (.inr (7, zvf0)) := rfl
noncomputable def zvf94 : List zAV := [.inr (.inr (.inl 95)), .inl ((.ofNat 1, .ofNat 8), none), .inl ((.ofNat 0, .ofNat 9), none), .inl ((.ofNat 0, .ofNat 8), none), .inr (.inr (.inl 96)), .inr (.inr (.inl 97)), .inr (.inr (.inl 98)), .inr (.inr (.inl 99)), .inl ((.ofNat 0, .ofNat 80), none), .inr (.inr (.inl 100)), .inl ((.ofNat 0, .ofNat 8), none), .inl ((.ofNat 0, .ofNat 1), none), .inr (.inr (.inr (.inr 100))), .inl ((.ofNat 0, .ofNat 80), none), .inl ((.ofNat 0, .ofNat 76), none), .inl ((.ofNat 0, .ofNat 76), none), .inl ((.negSucc 0, .ofNat 80), none), .inr (.inr (.inl 101)), .inr (.inr (.inl 102)), .inr (.inr (.inl 103)), .inl ((.ofNat 0, .ofNat 40), none), .inl ((.ofNat 0, .ofNat 0), none), .inr (.inr (.inl 104)), .inr (.inr (.inl 105)), .inl ((.ofNat 0, .ofNat 12), none), .inr (.inr (.inl 106)), .inr (.inr (.inl 107)), .inl ((.ofNat 0, .ofNat 255), none), .inl ((.ofNat 0, .ofNat 255), none), .inr (.inr (.inl 108)), .inr (.inr (.inl 109)), .inr (.inr (.inl 110)), .inr (.inr (.inl 111)), .inr (.inr (.inl 112)), .inr (.inr (.inl 113)), .inr (.inr (.inl 114)), .inr (.inr (.inl 115)), .inr (.inr (.inl 116)), .inr (.inr (.inl 117)), .inl ((.ofNat 1000000000, .ofNat 1000000000), none), .inr (.inr (.inl 118)), .inr (.inr (.inl 119)), .inr (.inr (.inl 120)), .inr (.inr (.inl 121)), .inl ((.negSucc 2147483647, .ofNat 2147483647), none), .inl ((.ofNat 0, .ofNat 12), none), .inl ((.negSucc 2147483647, .ofNat 2147483647), none), .inl ((.negSucc 2147483647, .ofNat 2147483647), none), .inr (.inr (.inl 122)), .inr (.inr (.inl 123)), .inr (.inr (.inl 124))]
set_option maxRecDepth 100000 in
theorem zvk94 : zrget zyI.2.1 94 = some (.inr (8, zvf94)) := rfl
theorem zon {a : Nat} (h : a < 1000) : (Int32.ofNat a).toInt = (a : Int) := nI_toInt (by omega)
theorem zonB {a : Nat} (h : a < 2147483648) : (Int32.ofNat a).toInt = (a : Int) := nI_toInt (by omega)
theorem zsc1 {i k : Nat} (hi : i ≤ 2560) (hk : k ≤ 5) : (Int32.ofNat i + Int32.ofInt (k : Int)).toInt = ((i + k : Nat) : Int) := by
  have e : (Int32.ofInt (k : Int)).toInt = (k : Int) := by
    have := (by decide : ∀ k : Nat, k < 6 → (Int32.ofInt (k : Int)).toInt = (k : Int))
    exact this k (by omega)
  rw [Int32.toInt_add, zonB (show i < 2147483648 by omega), e, zbm (B := 2147483648) (by decide) (by omega) (by omega)]
  omega
theorem zinc5 {i : Nat} (hi : i ≤ 2560) : Int32.ofNat i + Int32.ofInt 5 = Int32.ofNat (i + 5) := by
  apply Int32.toInt_inj.mp
  rw [zonB (show i + 5 < 2147483648 by omega)]
  exact zsc1 hi (by decide)
noncomputable def zq1 : zJ := zjQ [(1, 1), (94, 8)] [] [(1, 1, 0), (94, 8, 0)] [] yP1
theorem zq1_C : xz_C [(1, 1), (94, 8)] [] yP1 := by
  intro I I' h1 h2 h
  have a := h1 (1, 1) (by simp)
  have b := h1 (94, 8) (by simp)
  unfold yP1 at h ⊢
  rw [a, b]
  exact h
theorem zq1_Z : xz_Z [(1, 1, 0), (94, 8, 0)] [] yP1 := by
  intro I h1 h2
  have a : (I 1 1).toInt = 0 := h1 (1, 1, 0) (by simp)
  have b : (I 94 8).toInt = 0 := h1 (94, 8, 0) (by simp)
  unfold yP1
  rw [xt_eq, a, b]
set_option maxRecDepth 100000 in
theorem zq1_h : xz_sh [(1, 1), (94, 8)] [] zyI = true := by decide +kernel
noncomputable def zq2 : zJ := zjQ [] [2, 99] [] [(2, 0, 80, 0), (99, 0, 80, 0)] yP2
theorem zq2_C : xz_C [] [2, 99] yP2 := by
  intro I I' h1 h2 h
  intro i hi
  rw [h2 2 (by simp) i, h2 99 (by simp) i]
  exact h i hi
theorem zq2_Z : xz_Z [] [(2, 0, 80, 0), (99, 0, 80, 0)] yP2 := by
  intro I h1 h2
  intro i hi
  have a : (I 2 i).toInt = 0 := h2 (2, 0, 80, 0) (by simp) i (Nat.zero_le _) hi
  have b : (I 99 i).toInt = 0 := h2 (99, 0, 80, 0) (by simp) i (Nat.zero_le _) hi
  have a : I 2 i = 0 := xt_eq.mpr a
  have b : I 99 i = 0 := xt_eq.mpr b
  rw [a, b]
  decide
set_option maxRecDepth 100000 in
theorem zq2_h : xz_sh [] [2, 99] zyI = true := by decide +kernel
noncomputable def zq3 : zJ := zjQ [(3, 6), (94, 3)] [] [(3, 6, 0), (94, 3, 0)] [] yP3
theorem zq3_C : xz_C [(3, 6), (94, 3)] [] yP3 := by
  intro I I' h1 h2 h
  have a := h1 (3, 6) (by simp)
  have b := h1 (94, 3) (by simp)
  unfold yP3 at h ⊢
  rw [a, b]
  exact h
theorem zq3_Z : xz_Z [(3, 6, 0), (94, 3, 0)] [] yP3 := by
  intro I h1 h2
  have a : (I 3 6).toInt = 0 := h1 (3, 6, 0) (by simp)
  have b : (I 94 3).toInt = 0 := h1 (94, 3, 0) (by simp)
  unfold yP3
  rw [xt_eq, a, b]
set_option maxRecDepth 100000 in
theorem zq3_h : xz_sh [(3, 6), (94, 3)] [] zyI = true := by decide +kernel
noncomputable def zq4 : zJ := zjQ [(3, 6)] [4, 5, 6, 96, 97, 98] [(3, 6, 0)] [] yP4
theorem zq4_C : xz_C [(3, 6)] [4, 5, 6, 96, 97, 98] yP4 := by
  intro I I' h1 h2 h
  intro r hr hc
  have a : I' 3 6 = I 3 6 := h1 (3, 6) (by simp)
  rw [a] at hc
  rw [h2 4 (by simp) r, h2 5 (by simp) r, h2 6 (by simp) r, h2 96 (by simp) r, h2 97 (by simp) r, h2 98 (by simp) r]
  exact h r hr hc
theorem zq4_Z : xz_Z [(3, 6, 0)] [] yP4 := by
  intro I h1 h2
  intro r hr hc
  have a : (I 3 6).toInt = 0 := h1 (3, 6, 0) (by simp)
  omega
set_option maxRecDepth 100000 in
theorem zq4_h : xz_sh [(3, 6)] [4, 5, 6, 96, 97, 98] zyI = true := by decide +kernel
noncomputable def zq5 : zJ := zjQ [(94, 3), (94, 47)] [63, 123, 124] [(94, 3, 0), (94, 47, 0)] [(63, 0, 2, 0), (123, 0, 2, 0), (124, 0, 2, 0)] yP5
theorem zq5_C : xz_C [(94, 3), (94, 47)] [63, 123, 124] yP5 := by
  intro I I' h1 h2 h
  have a : I' 94 3 = I 94 3 := h1 (94, 3) (by simp)
  have b : I' 94 47 = I 94 47 := h1 (94, 47) (by simp)
  obtain ⟨p5, p6, p7⟩ := h
  refine ⟨by rw [b]; exact p5, by rw [a, b]; exact p6, fun i hi => ?_⟩
  rw [h2 63 (by simp) i, h2 123 (by simp) i, h2 124 (by simp) i, b]
  exact p7 i hi
theorem zq5_Z : xz_Z [(94, 3, 0), (94, 47, 0)] [(63, 0, 2, 0), (123, 0, 2, 0), (124, 0, 2, 0)] yP5 := by
  intro I h1 h2
  have a : (I 94 3).toInt = 0 := h1 (94, 3, 0) (by simp)
  have b : (I 94 47).toInt = 0 := h1 (94, 47, 0) (by simp)
  refine ⟨by omega, by omega, fun i hi => ?_⟩
  have c : (I 63 i).toInt = 0 := h2 (63, 0, 2, 0) (by simp) i (Nat.zero_le _) hi
  have d : (I 123 i).toInt = 0 := h2 (123, 0, 2, 0) (by simp) i (Nat.zero_le _) hi
  have f : (I 124 i).toInt = 0 := h2 (124, 0, 2, 0) (by simp) i (Nat.zero_le _) hi
  have c : I 63 i = 0 := xt_eq.mpr c
  have d : I 123 i = 0 := xt_eq.mpr d
  exact ⟨by omega, ⟨fun h => absurd c h, fun h => absurd d h.1⟩⟩
set_option maxRecDepth 100000 in
theorem zq5_h : xz_sh [(94, 3), (94, 47)] [63, 123, 124] zyI = true := by decide +kernel
noncomputable def zqJ : List zJ := [zq1, zq2, zq3, zq4, zq5]
theorem zqJ_ok {D : va_G} {tys : List (ClassId × FieldType)} {z : Nat} : ∀ q ∈ zqJ, zJok D tys z q := by
  intro q hq
  unfold zqJ at hq
  simp only [List.mem_cons, List.not_mem_nil, or_false] at hq
  rcases hq with rfl | rfl | rfl | rfl | rfl
  · exact zjQ_ok zq1_C zq1_Z
  · exact zjQ_ok zq2_C zq2_Z
  · exact zjQ_ok zq3_C zq3_Z
  · exact zjQ_ok zq4_C zq4_Z
  · exact zjQ_ok zq5_C zq5_Z
theorem zqJ_0 : ∀ q ∈ zqJ, q.1 0 = false := by
  intro q hq
  unfold zqJ at hq
  simp only [List.mem_cons, List.not_mem_nil, or_false] at hq
  rcases hq with rfl | rfl | rfl | rfl | rfl
  · exact xz_0
  · exact xz_0
  · exact xz_0
  · exact xz_0
  · exact xz_0
theorem zqP_of {ws : va_W} (h : ∀ q ∈ zqJ, q.2.2 ws) : yP (xz_I ws) := ⟨(h zq1 (by unfold zqJ; simp)).2, (h zq2 (by unfold zqJ; simp)).2, (h zq3 (by unfold zqJ; simp)).2, (h zq4 (by unfold zqJ; simp)).2, (h zq5 (by unfold zqJ; simp)).2⟩
theorem zqJ_of {D : va_G} {tys : List (ClassId × FieldType)} {o : zO} {z : Nat} {H0 H : Heap} {locs : List Loc} {ws : va_W} {bb : Nat → Nat} {f : Nat → Nat → Value} {g : Nat → Nat → Int32} (hv : zV zyI D tys o z H0 bb f g ws H locs) (hP : yP (xb_I f g)) : ∀ q ∈ zqJ, q.2.2 ws := by
  have hP : yP (xz_I ws) := by
    unfold xz_I
    rw [hv.2.2.2.2.2.1, hv.2.2.2.2.2.2]
    exact hP
  obtain ⟨p0, p1, p2, p3, p4⟩ := hP
  intro q hq
  unfold zqJ at hq
  simp only [List.mem_cons, List.not_mem_nil, or_false] at hq
  rcases hq with rfl | rfl | rfl | rfl | rfl
  · exact ⟨xz_ex_of hv.1 zq1_h, p0⟩
  · exact ⟨xz_ex_of hv.1 zq2_h, p1⟩
  · exact ⟨xz_ex_of hv.1 zq3_h, p2⟩
  · exact ⟨xz_ex_of hv.1 zq4_h, p3⟩
  · exact ⟨xz_ex_of hv.1 zq5_h, p4⟩
theorem yP_eq {I I' : Nat → Nat → Int32} (h : xz_eq I I') (hP : yP I) : yP I' := yP_cg (fun k j hk => h k j (yS_xv hk)) hP
set_option maxRecDepth 100000 in
theorem yB_99 : zfor (fun i => match xz_b 99 i with
  | some q => zle (-128) q.1 && zle q.2 127
  | none => false) 80 = true := by decide +kernel
theorem yB_of {I : Nat → Nat → Int32} (h : xbd I) : yB I := by
  refine ⟨fun i hi => ?_, h 3 6 (.ofNat 0, .ofNat 8) rfl, h 94 3 (.ofNat 0, .ofNat 8) rfl, h 1 1 (.ofNat 0, .ofNat 80) rfl, h 94 8 (.ofNat 0, .ofNat 80) rfl, h 78 1 (.ofNat 0, .ofNat 8) rfl, h 94 10 (.ofNat 0, .ofNat 8) rfl⟩
  have h9 := zfor_ok yB_99 i hi
  try dsimp only at h9
  split at h9
  · rename_i q hq
    simp only [Bool.and_eq_true, zle_iff] at h9
    have := h 99 i q hq
    obtain ⟨h1, h2⟩ := this
    unfold yb
    omega
  · cases h9
section ZRND
variable {p : Program} {l : Launch} {e : Env} {s : State} {m : MethodId} {below : List Frame} {meth : Method} {c0 : Code} {b : Nat} {D : va_G} {tys : List (ClassId × FieldType)} {o : zO} {z : Nat} {nm : String} {L : Nat} {xs : Nat → Int32}
/-- a round opens -/
theorem zop9 {g : Nat → Int32} {i : Nat} {jq : zI} {ls : Array Slot} {vst : List Value} {H : Heap} {locs : List Loc} {ws : va_W} (hg : g 4 = Int32.ofNat i) (S0 : zSat D vwCl tys (zwith o g) z ws 8 s.heap (zcL9 0 zyI jq) ls vst H locs ws) : (∃ x : Int32, vst = [.int x] ∧ zmi jq x) ∧ lv_has ls 8 [(4, .int (Int32.ofNat i)), (0, .ref o.1), (1, .ref (zwB ws 0)), (2, .ref (zwB ws 94)), (3, .ref (zwB ws 125))] ∧ zV zyI D tys o z s.heap (zwB ws) (zwV ws) (zwA ws) ws H locs := by
  obtain ⟨⟨lv, s1, s2⟩, s3, s4, s5, s6, s7, s8⟩ := S0
  refine ⟨?_, ?_, ⟨⟨s4.1, s4.2⟩, s5, s6, s7, rfl, rfl, rfl⟩⟩
  · obtain ⟨v, t, rfl, h1, h2⟩ := zr2_cons s3
    have e := zr2_nil h2
    subst e
    obtain ⟨x, rfl, hx, -⟩ := zint h1
    exact ⟨x, rfl, hx⟩
  · obtain ⟨⟨j4, v4⟩, lv4, rfl, ⟨a1, a2⟩, a3⟩ := zr2_cons s2
    obtain ⟨⟨j0, v0⟩, lv0, rfl, ⟨b1, b2⟩, b3⟩ := zr2_cons a3
    obtain ⟨⟨j1, v1⟩, lv1, rfl, ⟨c1, c2⟩, c3⟩ := zr2_cons b3
    obtain ⟨⟨j2, v2⟩, lv2, rfl, ⟨d1, d2⟩, d3⟩ := zr2_cons c3
    obtain ⟨⟨j3, v3⟩, lv3, rfl, ⟨e1, e2⟩, e3⟩ := zr2_cons d3
    have hnil := zr2_nil e3
    subst hnil
    have a1 : 4 = j4 := a1
    have b1 : 0 = j0 := b1
    have c1 : 1 = j1 := c1
    have d1 : 2 = j2 := d1
    have e1 : 3 = j3 := e1
    have b2 : v0 = .ref o.1 := b2
    subst a1
    subst b1
    subst c1
    subst d1
    subst e1
    subst b2
    obtain ⟨x4, rfl, -, tx⟩ := a2
    have tx : x4 = g 4 + Int32.ofInt (.ofNat 0) := (ztg_eq (q := (4, .ofNat 0)) (by decide)).mp tx
    have ex : x4 = Int32.ofNat i := by rw [tx, hg]; exact Int32.add_zero _
    subst ex
    obtain ⟨q1, hq1, rfl⟩ := c2
    obtain ⟨q2, hq2, rfl⟩ := d2
    obtain ⟨q3, hq3, rfl⟩ := e2
    obtain ⟨n1, m1⟩ := zad_some hq1
    obtain ⟨n2, m2⟩ := zad_some hq2
    obtain ⟨n3, m3⟩ := zad_some hq3
    rw [zwB_of m1, zwB_of m2, zwB_of m3]
    exact s1
/-- a round closes -/
theorem zcl9 {Js : List zJ} {i K S : Nat} (hi : i + 5 ≤ 2560) (hn : zNx p l e s m b below meth c0 D tys o z zyI Js i K S) {ls : Array Slot} {H : Heap} {locs : List Loc} {ws : va_W} {bb : Nat → Nat} {f : Nat → Nat → Value} {g : Nat → Nat → Int32} (hlv : lv_has ls 8 [(4, .int (Int32.ofNat (i + 5))), (0, .ref o.1), (1, .ref (bb 0)), (2, .ref (bb 94)), (3, .ref (bb 125))]) (hv : zV zyI D tys o z s.heap bb f g ws H locs) (hR : ∀ q ∈ Js, q.2.2 ws) : W p l e room_1 s m #[Value.ref b] below meth c0 H locs (0 + K) (0 + S) (lw_Z below #[Value.ref b] s) (F0 m 23 ls []) := by
  have e5 : (Int32.ofNat (i + 5)).toInt = ((i + 5 : Nat) : Int) := zonB (by omega)
  have e4 : zgv ls 4 = Int32.ofNat (i + 5) := zgv_lo (by decide) (lv_at hlv 0 rfl)
  refine W.widen (k := 0 + (K + 1)) (n := 0 + (S + 6)) (by omega) (by omega) (hn ls H locs ws ⟨⟨_, hlv, ⟨rfl, _, rfl, ⟨?_, ?_⟩, ?_⟩, ⟨rfl, rfl⟩, ⟨rfl, _, zV_ad hv (show 0 < 126 by decide), rfl⟩, ⟨rfl, _, zV_ad hv (show 94 < 126 by decide), rfl⟩, ⟨rfl, _, zV_ad hv (show 125 < 126 by decide), rfl⟩, trivial⟩, trivial, ⟨hv.1.1, hv.1.2⟩, hv.2.1, hv.2.2.1, hv.2.2.2.1, fun k a e he => by simp at he⟩ e4 hR)
  · show (0 : Int) ≤ (Int32.ofNat (i + 5)).toInt
    omega
  · show (Int32.ofNat (i + 5)).toInt ≤ (2560 : Int)
    omega
  · refine (ztg_eq (q := (4, .ofNat 0)) (by decide)).mpr ?_
    show Int32.ofNat (i + 5) = zgv ls 4 + Int32.ofInt (.ofNat 0)
    rw [e4]
    exact (Int32.add_zero _).symm
end ZRND
set_option maxRecDepth 100000 in
theorem zcx_X8_rule_k : zxK 300 60000 276 (xz_as 94 0) (some (.inl (ztopI, none))) zmall = true := by decide +kernel
theorem zcx_X8_rule {l0 : Launch} {D : va_G} {tys : List (ClassId × FieldType)} {o : zO} {z : Nat} {b : Nat → Nat} {f : Nat → Nat → Value} {g : Nat → Nat → Int32} (E : zEnv tys) {d : Nat} (hd : d ≤ 200) {Po : Int32 → (Nat → Nat → Int32) → Prop} (hx : ∀ J : Nat → Nat → Int64, ∃ a I' J' R', xq_D xqP d 276 (.ref 94 :: [].map Value.int) (xb_I f g, J, xb_R zyI f) = some (some (.int a), I', J', R') ∧ Po a I') : zCt l0 D tys o z zyI b mX8_rule 300 60000 [.ref (b 94)] f g (fun v f' g' => ∃ a I', v = some (.int a) ∧ Po a I' ∧ xb_ag I' f' g') :=
  zCt_mono (xz_ct (k := 94) (mi := 276) (m1 := mX8_rule) (m2 := m2X8_rule) (mk := zmall) (xs := []) (r := some (.inl (ztopI, none))) E rfl rfl (fun h => h) zcx_X8_rule_k (by decide) hd hx) (fun _ _ _ h => h.1)
set_option maxRecDepth 100000 in
theorem zcx_X7_sign_k : zxK 300 60000 167 (xz_as 0 1) (some (.inl (ztopI, none))) zmall = true := by decide +kernel
theorem zcx_X7_sign {l0 : Launch} {D : va_G} {tys : List (ClassId × FieldType)} {o : zO} {z : Nat} {b : Nat → Nat} {f : Nat → Nat → Value} {g : Nat → Nat → Int32} (E : zEnv tys) {d : Nat} (hd : d ≤ 200) {x0 : Int32} {Po : Int32 → (Nat → Nat → Int32) → Prop} (hx : ∀ J : Nat → Nat → Int64, ∃ a I' J' R', xq_D xqP d 167 (.ref 0 :: [x0].map Value.int) (xb_I f g, J, xb_R zyI f) = some (some (.int a), I', J', R') ∧ Po a I') : zCt l0 D tys o z zyI b mX7_sign 300 60000 [.ref (b 0), .int x0] f g (fun v f' g' => ∃ a I', v = some (.int a) ∧ Po a I' ∧ xb_ag I' f' g') :=
  zCt_mono (xz_ct (k := 0) (mi := 167) (m1 := mX7_sign) (m2 := mX7_sign) (mk := zmall) (xs := [x0]) (r := some (.inl (ztopI, none))) E rfl rfl (fun h => h) zcx_X7_sign_k (by decide) hd hx) (fun _ _ _ h => h.1)
set_option maxRecDepth 100000 in
theorem zcx_X8_sign_k : zxK 300 60000 280 (xz_as 94 1) (some (.inl (ztopI, none))) zmall = true := by decide +kernel
theorem zcx_X8_sign {l0 : Launch} {D : va_G} {tys : List (ClassId × FieldType)} {o : zO} {z : Nat} {b : Nat → Nat} {f : Nat → Nat → Value} {g : Nat → Nat → Int32} (E : zEnv tys) {d : Nat} (hd : d ≤ 200) {x0 : Int32} {Po : Int32 → (Nat → Nat → Int32) → Prop} (hx : ∀ J : Nat → Nat → Int64, ∃ a I' J' R', xq_D xqP d 280 (.ref 94 :: [x0].map Value.int) (xb_I f g, J, xb_R zyI f) = some (some (.int a), I', J', R') ∧ Po a I') : zCt l0 D tys o z zyI b mX8_sign 300 60000 [.ref (b 94), .int x0] f g (fun v f' g' => ∃ a I', v = some (.int a) ∧ Po a I' ∧ xb_ag I' f' g') :=
  zCt_mono (xz_ct (k := 94) (mi := 280) (m1 := mX8_sign) (m2 := m2X8_sign) (mk := zmall) (xs := [x0]) (r := some (.inl (ztopI, none))) E rfl rfl (fun h => h) zcx_X8_sign_k (by decide) hd hx) (fun _ _ _ h => h.1)
set_option maxRecDepth 100000 in
theorem zcx_X7_end_k : zxK 300 60000 115 (xz_as 0 1) (some (.inl (ztopI, none))) zmall = true := by decide +kernel
theorem zcx_X7_end {l0 : Launch} {D : va_G} {tys : List (ClassId × FieldType)} {o : zO} {z : Nat} {b : Nat → Nat} {f : Nat → Nat → Value} {g : Nat → Nat → Int32} (E : zEnv tys) {d : Nat} (hd : d ≤ 200) {x0 : Int32} {Po : Int32 → (Nat → Nat → Int32) → Prop} (hx : ∀ J : Nat → Nat → Int64, ∃ a I' J' R', xq_D xqP d 115 (.ref 0 :: [x0].map Value.int) (xb_I f g, J, xb_R zyI f) = some (some (.int a), I', J', R') ∧ Po a I') : zCt l0 D tys o z zyI b mX7_end 300 60000 [.ref (b 0), .int x0] f g (fun v f' g' => ∃ a I', v = some (.int a) ∧ Po a I' ∧ xb_ag I' f' g') :=
  zCt_mono (xz_ct (k := 0) (mi := 115) (m1 := mX7_end) (m2 := m2X7_end) (mk := zmall) (xs := [x0]) (r := some (.inl (ztopI, none))) E rfl rfl (fun h => h) zcx_X7_end_k (by decide) hd hx) (fun _ _ _ h => h.1)
set_option maxRecDepth 100000 in
theorem zcx_X8_end_k : zxK 300 60000 205 (xz_as 94 1) (some (.inl (ztopI, none))) zmall = true := by decide +kernel
theorem zcx_X8_end {l0 : Launch} {D : va_G} {tys : List (ClassId × FieldType)} {o : zO} {z : Nat} {b : Nat → Nat} {f : Nat → Nat → Value} {g : Nat → Nat → Int32} (E : zEnv tys) {d : Nat} (hd : d ≤ 200) {x0 : Int32} {Po : Int32 → (Nat → Nat → Int32) → Prop} (hx : ∀ J : Nat → Nat → Int64, ∃ a I' J' R', xq_D xqP d 205 (.ref 94 :: [x0].map Value.int) (xb_I f g, J, xb_R zyI f) = some (some (.int a), I', J', R') ∧ Po a I') : zCt l0 D tys o z zyI b mX8_end 300 60000 [.ref (b 94), .int x0] f g (fun v f' g' => ∃ a I', v = some (.int a) ∧ Po a I' ∧ xb_ag I' f' g') :=
  zCt_mono (xz_ct (k := 94) (mi := 205) (m1 := mX8_end) (m2 := m2X8_end) (mk := zmall) (xs := [x0]) (r := some (.inl (ztopI, none))) E rfl rfl (fun h => h) zcx_X8_end_k (by decide) hd hx) (fun _ _ _ h => h.1)
set_option maxRecDepth 100000 in
theorem zcx_X7_riders_k : zxK 300 60000 158 (xz_as 0 0) (some (.inl (ztopI, none))) zmall = true := by decide +kernel
theorem zcx_X7_riders {l0 : Launch} {D : va_G} {tys : List (ClassId × FieldType)} {o : zO} {z : Nat} {b : Nat → Nat} {f : Nat → Nat → Value} {g : Nat → Nat → Int32} (E : zEnv tys) {d : Nat} (hd : d ≤ 200) {Po : Int32 → (Nat → Nat → Int32) → Prop} (hx : ∀ J : Nat → Nat → Int64, ∃ a I' J' R', xq_D xqP d 158 (.ref 0 :: [].map Value.int) (xb_I f g, J, xb_R zyI f) = some (some (.int a), I', J', R') ∧ Po a I') : zCt l0 D tys o z zyI b mX7_riders 300 60000 [.ref (b 0)] f g (fun v f' g' => ∃ a I', v = some (.int a) ∧ Po a I' ∧ xb_ag I' f' g') :=
  zCt_mono (xz_ct (k := 0) (mi := 158) (m1 := mX7_riders) (m2 := mX7_riders) (mk := zmall) (xs := []) (r := some (.inl (ztopI, none))) E rfl rfl (fun h => h) zcx_X7_riders_k (by decide) hd hx) (fun _ _ _ h => h.1)
set_option maxRecDepth 100000 in
theorem zcx_X8_riders_k : zxK 300 60000 272 (xz_as 94 0) (some (.inl (ztopI, none))) zmall = true := by decide +kernel
theorem zcx_X8_riders {l0 : Launch} {D : va_G} {tys : List (ClassId × FieldType)} {o : zO} {z : Nat} {b : Nat → Nat} {f : Nat → Nat → Value} {g : Nat → Nat → Int32} (E : zEnv tys) {d : Nat} (hd : d ≤ 200) {Po : Int32 → (Nat → Nat → Int32) → Prop} (hx : ∀ J : Nat → Nat → Int64, ∃ a I' J' R', xq_D xqP d 272 (.ref 94 :: [].map Value.int) (xb_I f g, J, xb_R zyI f) = some (some (.int a), I', J', R') ∧ Po a I') : zCt l0 D tys o z zyI b mX8_riders 300 60000 [.ref (b 94)] f g (fun v f' g' => ∃ a I', v = some (.int a) ∧ Po a I' ∧ xb_ag I' f' g') :=
  zCt_mono (xz_ct (k := 94) (mi := 272) (m1 := mX8_riders) (m2 := m2X8_riders) (mk := zmall) (xs := []) (r := some (.inl (ztopI, none))) E rfl rfl (fun h => h) zcx_X8_riders_k (by decide) hd hx) (fun _ _ _ h => h.1)
set_option maxRecDepth 100000 in
theorem zcx_X7_keep_k : zxK 300 60000 138 (xz_as 0 1) (some (.inl (ztopI, none))) zmall = true := by decide +kernel
theorem zcx_X7_keep {l0 : Launch} {D : va_G} {tys : List (ClassId × FieldType)} {o : zO} {z : Nat} {b : Nat → Nat} {f : Nat → Nat → Value} {g : Nat → Nat → Int32} (E : zEnv tys) {d : Nat} (hd : d ≤ 200) {x0 : Int32} {Po : Int32 → (Nat → Nat → Int32) → Prop} (hx : ∀ J : Nat → Nat → Int64, ∃ a I' J' R', xq_D xqP d 138 (.ref 0 :: [x0].map Value.int) (xb_I f g, J, xb_R zyI f) = some (some (.int a), I', J', R') ∧ Po a I') : zCt l0 D tys o z zyI b mX7_keep 300 60000 [.ref (b 0), .int x0] f g (fun v f' g' => ∃ a I', v = some (.int a) ∧ Po a I' ∧ xb_ag I' f' g') :=
  zCt_mono (xz_ct (k := 0) (mi := 138) (m1 := mX7_keep) (m2 := m2X7_keep) (mk := zmall) (xs := [x0]) (r := some (.inl (ztopI, none))) E rfl rfl (fun h => h) zcx_X7_keep_k (by decide) hd hx) (fun _ _ _ h => h.1)
set_option maxRecDepth 100000 in
theorem zcx_X8_keep_k : zxK 300 60000 241 (xz_as 94 1) (some (.inl (ztopI, none))) zmall = true := by decide +kernel
theorem zcx_X8_keep {l0 : Launch} {D : va_G} {tys : List (ClassId × FieldType)} {o : zO} {z : Nat} {b : Nat → Nat} {f : Nat → Nat → Value} {g : Nat → Nat → Int32} (E : zEnv tys) {d : Nat} (hd : d ≤ 200) {x0 : Int32} {Po : Int32 → (Nat → Nat → Int32) → Prop} (hx : ∀ J : Nat → Nat → Int64, ∃ a I' J' R', xq_D xqP d 241 (.ref 94 :: [x0].map Value.int) (xb_I f g, J, xb_R zyI f) = some (some (.int a), I', J', R') ∧ Po a I') : zCt l0 D tys o z zyI b mX8_keep 300 60000 [.ref (b 94), .int x0] f g (fun v f' g' => ∃ a I', v = some (.int a) ∧ Po a I' ∧ xb_ag I' f' g') :=
  zCt_mono (xz_ct (k := 94) (mi := 241) (m1 := mX8_keep) (m2 := m2X8_keep) (mk := zmall) (xs := [x0]) (r := some (.inl (ztopI, none))) E rfl rfl (fun h => h) zcx_X8_keep_k (by decide) hd hx) (fun _ _ _ h => h.1)
section ZRNX
variable {p : Program} {l : Launch} {e : Env} {s : State} {m : MethodId} {below : List Frame} {meth : Method} {c0 : Code} {b : Nat} {D : va_G} {tys : List (ClassId × FieldType)} {o : zO} {z : Nat} {nm : String} {L : Nat} {xs : Nat → Int32}
set_option maxHeartbeats 8000000 in
theorem zsx_rule (E : zEnv tys) (C : zCx p room_1 s m #[Value.ref b] meth c0 D vwCl tys z (zXX o z) zTs RL cL_law 8 nm) (hX : va_X o.1 L xs s s.heap) (hbl : o.1 < s.heap.size) (hbA : ¬ zA z o.1) (hL : L ≤ 2560) {b1 b2 : zI} : zSpec p l e s m b below meth c0 D tys o z L xs zyI zqJ (.ofNat 3, .ofNat 3) b1 b2 := by
  intro i K S g ls H locs ws hg h5 hi hK hS hj hm1 hm2 vst S0 hR hn
  obtain ⟨⟨xj, rfl, hxj⟩, hlv, hv⟩ := zop9 hg S0
  have hP : yP (xb_I (zwV ws) (zwA ws)) := zqP_of hR
  generalize hfe : zwV ws = f at *
  generalize hge : zwA ws = g0 at *
  generalize hbe : zwB ws = bb at *
  have hB := yB_of (xz_bd hv)
  have hxj2 : xj.toInt = 3 := by
    obtain ⟨q1, q2⟩ := hxj
    have q1 : (3 : Int) ≤ xj.toInt := q1
    have q2 : xj.toInt ≤ (3 : Int) := q2
    omega
  refine lv_tableIn C.1 C.2.1 (zdaP zDL0 39 (by decide) rfl rfl) (by rw [hxj2]; decide) (by rw [hxj2]; decide) (off := 276) (by rw [hxj2]; rfl) (tgt := 315) (by decide) ?_
  refine lv_aload_n C.1 C.2.1 (zdaP zDL1 315 (by decide) rfl rfl) rfl (lv_at hlv 2 rfl) ?_
  refine zV_callVP C (zcx_rule E (d := 8) (by decide) (fun J => (yrule (fun _ h => h) hP hB) J _ xz_Rok)) rfl rfl (by decide) (by decide) (show vwCl[7]? = some (RX7, TX7, 16) from rfl) zw532 zw529 zw530 zw531 zw1 (n := 0) (by decide +kernel) (zdaP zDL1 316 (by decide) rfl rfl) rfl zvk0 (show 0 < 126 by decide) hv hlv.1 (by show 0 ≤ 8; decide) (by show 0 + K ≤ 601024; omega) (by show 0 + S ≤ 7293034; omega) (fun v b9 f9 g9 ws H locs hp hv => ?_)
  obtain ⟨a1, I1, rfl, hPo, hb0, hb94, hb125, hag⟩ := hp
  rw [← hb0, ← hb94, ← hb125] at hlv
  have hq := hPo _ (xz_e hv hag) (yB_of (xz_bd hv))
  refine lv_aload_n C.1 C.2.1 (zdaP zDL1 319 (by decide) rfl rfl) rfl (lv_at hlv 3 rfl) ?_
  refine zV_callV C (zcx_X8_rule E (d := 173) (by decide) (Po := fun b2 I2 => (True → a1 = b2) ∧ yP I2) (fun J => hq J _ xz_Rok)) rfl rfl (by decide) (by decide) (show vwCl[8]? = some (RX8, TX8, 51) from rfl) zw1380 zw1377 zw1378 zw1379 zw16 (n := 0) (by decide +kernel) (zdaP zDL1 320 (by decide) rfl rfl) rfl zvk94 (show 94 < 126 by decide) hv hlv.1 (by show 1 ≤ 8; decide) (by show 0 + K ≤ 601024; omega) (by show 0 + S ≤ 7293034; omega) (fun v f9 g9 ws H locs hp hv => ?_)
  obtain ⟨a2, I2, rfl, ⟨hab, hP2⟩, hag2⟩ := hp
  have hP3 := yP_eq (xz_e hv hag2) hP2
  refine lv_icmp_eq C.1 C.2.1 (zdaP zDL1 323 (by decide) rfl rfl) (tgt := 1436) (by decide) (fun h323 => ?_) (fun h323 => ?_)
  · refine lv_iinc C.1 C.2.1 (zdaP zDL5 1436 (by decide) rfl rfl) hlv (k := 0) rfl rfl (by decide) (lv' := [(4, .int ((Int32.ofNat i) + Int32.ofInt 5)), (0, .ref o.1), (1, .ref (b9 0)), (2, .ref (b9 94)), (3, .ref (b9 125))]) rfl (fun ls hlv => ?_)
    rw [zinc5 hi] at hlv
    refine lv_goto C.1 C.2.1 (zdaP zDL5 1439 (by decide) rfl rfl) (tgt := 23) (by decide) ?_
    exact zcl9 (by omega) hn hlv hv (zqJ_of hv hP3)
  · exact absurd (hab trivial) h323
set_option maxHeartbeats 8000000 in
theorem zsx_sign (E : zEnv tys) (C : zCx p room_1 s m #[Value.ref b] meth c0 D vwCl tys z (zXX o z) zTs RL cL_law 8 nm) (hX : va_X o.1 L xs s s.heap) (hbl : o.1 < s.heap.size) (hbA : ¬ zA z o.1) (hL : L ≤ 2560) {b1 b2 : zI} : zSpec p l e s m b below meth c0 D tys o z L xs zyI zqJ (.ofNat 0, .ofNat 0) b1 b2 := by
  intro i K S g ls H locs ws hg h5 hi hK hS hj hm1 hm2 vst S0 hR hn
  obtain ⟨⟨xj, rfl, hxj⟩, hlv, hv⟩ := zop9 hg S0
  have hP : yP (xb_I (zwV ws) (zwA ws)) := zqP_of hR
  generalize hfe : zwV ws = f at *
  generalize hge : zwA ws = g0 at *
  generalize hbe : zwB ws = bb at *
  have hB := yB_of (xz_bd hv)
  have hxj2 : xj.toInt = 0 := by
    obtain ⟨q1, q2⟩ := hxj
    have q1 : (0 : Int) ≤ xj.toInt := q1
    have q2 : xj.toInt ≤ (0 : Int) := q2
    omega
  refine lv_tableIn C.1 C.2.1 (zdaP zDL0 39 (by decide) rfl rfl) (by rw [hxj2]; decide) (by rw [hxj2]; decide) (off := 213) (by rw [hxj2]; rfl) (tgt := 252) (by decide) ?_
  refine lv_aload_n C.1 C.2.1 (zdaP zDL0 252 (by decide) rfl rfl) rfl (lv_at hlv 2 rfl) ?_
  refine lv_aload_n C.1 C.2.1 (zdaP zDL0 253 (by decide) rfl rfl) rfl (lv_at hlv 1 rfl) ?_
  refine lv_iload C.1 C.2.1 (zdaP zDL0 254 (by decide) rfl rfl) (lv_at hlv 0 rfl) ?_
  refine lv_iconst C.1 C.2.1 (zdaP zDL1 256 (by decide) rfl rfl) rfl ?_
  refine lv_iadd C.1 C.2.1 (zdaP zDL1 257 (by decide) rfl rfl) ?_
  refine va_sld C.1 C.2.1 hX hbl hbA hv.2.2.2.1 (vp_in_iff.mpr ⟨by rw [show Int32.ofInt 1 = Int32.ofInt ((1 : Nat) : Int) by decide, zsc1 hi (by decide)]; omega, by rw [show Int32.ofInt 1 = Int32.ofInt ((1 : Nat) : Int) by decide, zsc1 hi (by decide)]; omega⟩) (zdaP zDL1 258 (by decide) rfl rfl) ?_
  refine zV_callV C (zcx_X7_sign E (d := 2) (by decide) (x0 := xs (Int32.ofNat i + Int32.ofInt 1).toNatClampNeg) (fun J => (ysign (I := xb_I f g0) (x := xs (Int32.ofNat i + Int32.ofInt 1).toNatClampNeg) hP hB) J _ xz_Rok)) rfl rfl (by decide) (by decide) (show vwCl[7]? = some (RX7, TX7, 16) from rfl) zw475 zw472 zw473 zw474 zw1 (n := 1) (by decide +kernel) (zdaP zDL1 259 (by decide) rfl rfl) rfl zvk0 (show 0 < 126 by decide) hv hlv.1 (by show 0 ≤ 8; decide) (by show 0 + K ≤ 601024; omega) (by show 0 + S ≤ 7293034; omega) (fun v f9 g9 ws H locs hp hv => ?_)
  obtain ⟨a1, I1, rfl, hPo, hag⟩ := hp
  have hq := hPo _ (xz_e hv hag) (yB_of (xz_bd hv))
  refine lv_pop C.1 C.2.1 (zdaP zDL1 262 (by decide) rfl rfl) rfl ?_
  refine lv_aload_n C.1 C.2.1 (zdaP zDL1 263 (by decide) rfl rfl) rfl (lv_at hlv 3 rfl) ?_
  refine lv_aload_n C.1 C.2.1 (zdaP zDL1 264 (by decide) rfl rfl) rfl (lv_at hlv 1 rfl) ?_
  refine lv_iload C.1 C.2.1 (zdaP zDL1 265 (by decide) rfl rfl) (lv_at hlv 0 rfl) ?_
  refine lv_iconst C.1 C.2.1 (zdaP zDL1 267 (by decide) rfl rfl) rfl ?_
  refine lv_iadd C.1 C.2.1 (zdaP zDL1 268 (by decide) rfl rfl) ?_
  refine va_sld C.1 C.2.1 hX hbl hbA hv.2.2.2.1 (vp_in_iff.mpr ⟨by rw [show Int32.ofInt 1 = Int32.ofInt ((1 : Nat) : Int) by decide, zsc1 hi (by decide)]; omega, by rw [show Int32.ofInt 1 = Int32.ofInt ((1 : Nat) : Int) by decide, zsc1 hi (by decide)]; omega⟩) (zdaP zDL1 269 (by decide) rfl rfl) ?_
  refine zV_callV C (zcx_X8_sign E (d := 1) (by decide) (x0 := xs (Int32.ofNat i + Int32.ofInt 1).toNatClampNeg) (Po := fun b2 I2 => (False → a1 = b2) ∧ yP I2) (fun J => hq J _ xz_Rok)) rfl rfl (by decide) (by decide) (show vwCl[8]? = some (RX8, TX8, 51) from rfl) zw1329 zw1326 zw1327 zw1328 zw16 (n := 1) (by decide +kernel) (zdaP zDL1 270 (by decide) rfl rfl) rfl zvk94 (show 94 < 126 by decide) hv hlv.1 (by show 0 ≤ 8; decide) (by show 0 + K ≤ 601024; omega) (by show 0 + S ≤ 7293034; omega) (fun v f9 g9 ws H locs hp hv => ?_)
  obtain ⟨a2, I2, rfl, ⟨hab, hP2⟩, hag2⟩ := hp
  have hP3 := yP_eq (xz_e hv hag2) hP2
  refine lv_pop C.1 C.2.1 (zdaP zDL1 273 (by decide) rfl rfl) rfl ?_
  refine lv_goto C.1 C.2.1 (zdaP zDL1 274 (by decide) rfl rfl) (tgt := 1436) (by decide) ?_
  refine lv_iinc C.1 C.2.1 (zdaP zDL5 1436 (by decide) rfl rfl) hlv (k := 0) rfl rfl (by decide) (lv' := [(4, .int ((Int32.ofNat i) + Int32.ofInt 5)), (0, .ref o.1), (1, .ref (bb 0)), (2, .ref (bb 94)), (3, .ref (bb 125))]) rfl (fun ls hlv => ?_)
  rw [zinc5 hi] at hlv
  refine lv_goto C.1 C.2.1 (zdaP zDL5 1439 (by decide) rfl rfl) (tgt := 23) (by decide) ?_
  exact zcl9 (by omega) hn hlv hv (zqJ_of hv hP3)
set_option maxHeartbeats 8000000 in
theorem zsx_end (E : zEnv tys) (C : zCx p room_1 s m #[Value.ref b] meth c0 D vwCl tys z (zXX o z) zTs RL cL_law 8 nm) (hX : va_X o.1 L xs s s.heap) (hbl : o.1 < s.heap.size) (hbA : ¬ zA z o.1) (hL : L ≤ 2560) {b1 b2 : zI} : zSpec p l e s m b below meth c0 D tys o z L xs zyI zqJ (.ofNat 1, .ofNat 1) b1 b2 := by
  intro i K S g ls H locs ws hg h5 hi hK hS hj hm1 hm2 vst S0 hR hn
  obtain ⟨⟨xj, rfl, hxj⟩, hlv, hv⟩ := zop9 hg S0
  have hP : yP (xb_I (zwV ws) (zwA ws)) := zqP_of hR
  generalize hfe : zwV ws = f at *
  generalize hge : zwA ws = g0 at *
  generalize hbe : zwB ws = bb at *
  have hB := yB_of (xz_bd hv)
  have hxj2 : xj.toInt = 1 := by
    obtain ⟨q1, q2⟩ := hxj
    have q1 : (1 : Int) ≤ xj.toInt := q1
    have q2 : xj.toInt ≤ (1 : Int) := q2
    omega
  refine lv_tableIn C.1 C.2.1 (zdaP zDL0 39 (by decide) rfl rfl) (by rw [hxj2]; decide) (by rw [hxj2]; decide) (off := 238) (by rw [hxj2]; rfl) (tgt := 277) (by decide) ?_
  refine lv_aload_n C.1 C.2.1 (zdaP zDL1 277 (by decide) rfl rfl) rfl (lv_at hlv 2 rfl) ?_
  refine lv_aload_n C.1 C.2.1 (zdaP zDL1 278 (by decide) rfl rfl) rfl (lv_at hlv 1 rfl) ?_
  refine lv_iload C.1 C.2.1 (zdaP zDL1 279 (by decide) rfl rfl) (lv_at hlv 0 rfl) ?_
  refine lv_iconst C.1 C.2.1 (zdaP zDL1 281 (by decide) rfl rfl) rfl ?_
  refine lv_iadd C.1 C.2.1 (zdaP zDL1 282 (by decide) rfl rfl) ?_
  refine va_sld C.1 C.2.1 hX hbl hbA hv.2.2.2.1 (vp_in_iff.mpr ⟨by rw [show Int32.ofInt 1 = Int32.ofInt ((1 : Nat) : Int) by decide, zsc1 hi (by decide)]; omega, by rw [show Int32.ofInt 1 = Int32.ofInt ((1 : Nat) : Int) by decide, zsc1 hi (by decide)]; omega⟩) (zdaP zDL1 283 (by decide) rfl rfl) ?_
  refine zV_callV C (zcx_X7_end E (d := 2) (by decide) (x0 := xs (Int32.ofNat i + Int32.ofInt 1).toNatClampNeg) (fun J => (yend (I := xb_I f g0) (x := xs (Int32.ofNat i + Int32.ofInt 1).toNatClampNeg) hP hB) J _ xz_Rok)) rfl rfl (by decide) (by decide) (show vwCl[7]? = some (RX7, TX7, 16) from rfl) zw483 zw480 zw481 zw482 zw1 (n := 1) (by decide +kernel) (zdaP zDL1 284 (by decide) rfl rfl) rfl zvk0 (show 0 < 126 by decide) hv hlv.1 (by show 0 ≤ 8; decide) (by show 0 + K ≤ 601024; omega) (by show 0 + S ≤ 7293034; omega) (fun v f9 g9 ws H locs hp hv => ?_)
  obtain ⟨a1, I1, rfl, hPo, hag⟩ := hp
  have hq := hPo _ (xz_e hv hag) (yB_of (xz_bd hv))
  refine lv_pop C.1 C.2.1 (zdaP zDL1 287 (by decide) rfl rfl) rfl ?_
  refine lv_aload_n C.1 C.2.1 (zdaP zDL1 288 (by decide) rfl rfl) rfl (lv_at hlv 3 rfl) ?_
  refine lv_aload_n C.1 C.2.1 (zdaP zDL1 289 (by decide) rfl rfl) rfl (lv_at hlv 1 rfl) ?_
  refine lv_iload C.1 C.2.1 (zdaP zDL1 290 (by decide) rfl rfl) (lv_at hlv 0 rfl) ?_
  refine lv_iconst C.1 C.2.1 (zdaP zDL1 292 (by decide) rfl rfl) rfl ?_
  refine lv_iadd C.1 C.2.1 (zdaP zDL1 293 (by decide) rfl rfl) ?_
  refine va_sld C.1 C.2.1 hX hbl hbA hv.2.2.2.1 (vp_in_iff.mpr ⟨by rw [show Int32.ofInt 1 = Int32.ofInt ((1 : Nat) : Int) by decide, zsc1 hi (by decide)]; omega, by rw [show Int32.ofInt 1 = Int32.ofInt ((1 : Nat) : Int) by decide, zsc1 hi (by decide)]; omega⟩) (zdaP zDL1 294 (by decide) rfl rfl) ?_
  refine zV_callV C (zcx_X8_end E (d := 2) (by decide) (x0 := xs (Int32.ofNat i + Int32.ofInt 1).toNatClampNeg) (Po := fun b2 I2 => (False → a1 = b2) ∧ yP I2) (fun J => hq J _ xz_Rok)) rfl rfl (by decide) (by decide) (show vwCl[8]? = some (RX8, TX8, 51) from rfl) zw1333 zw1330 zw1331 zw1332 zw16 (n := 1) (by decide +kernel) (zdaP zDL1 295 (by decide) rfl rfl) rfl zvk94 (show 94 < 126 by decide) hv hlv.1 (by show 0 ≤ 8; decide) (by show 0 + K ≤ 601024; omega) (by show 0 + S ≤ 7293034; omega) (fun v f9 g9 ws H locs hp hv => ?_)
  obtain ⟨a2, I2, rfl, ⟨hab, hP2⟩, hag2⟩ := hp
  have hP3 := yP_eq (xz_e hv hag2) hP2
  refine lv_pop C.1 C.2.1 (zdaP zDL1 298 (by decide) rfl rfl) rfl ?_
  refine lv_goto C.1 C.2.1 (zdaP zDL1 299 (by decide) rfl rfl) (tgt := 1436) (by decide) ?_
  refine lv_iinc C.1 C.2.1 (zdaP zDL5 1436 (by decide) rfl rfl) hlv (k := 0) rfl rfl (by decide) (lv' := [(4, .int ((Int32.ofNat i) + Int32.ofInt 5)), (0, .ref o.1), (1, .ref (bb 0)), (2, .ref (bb 94)), (3, .ref (bb 125))]) rfl (fun ls hlv => ?_)
  rw [zinc5 hi] at hlv
  refine lv_goto C.1 C.2.1 (zdaP zDL5 1439 (by decide) rfl rfl) (tgt := 23) (by decide) ?_
  exact zcl9 (by omega) hn hlv hv (zqJ_of hv hP3)
set_option maxHeartbeats 8000000 in
theorem zsx_riders (E : zEnv tys) (C : zCx p room_1 s m #[Value.ref b] meth c0 D vwCl tys z (zXX o z) zTs RL cL_law 8 nm) (hX : va_X o.1 L xs s s.heap) (hbl : o.1 < s.heap.size) (hbA : ¬ zA z o.1) (hL : L ≤ 2560) {b1 b2 : zI} : zSpec p l e s m b below meth c0 D tys o z L xs zyI zqJ (.ofNat 2, .ofNat 2) b1 b2 := by
  intro i K S g ls H locs ws hg h5 hi hK hS hj hm1 hm2 vst S0 hR hn
  obtain ⟨⟨xj, rfl, hxj⟩, hlv, hv⟩ := zop9 hg S0
  have hP : yP (xb_I (zwV ws) (zwA ws)) := zqP_of hR
  generalize hfe : zwV ws = f at *
  generalize hge : zwA ws = g0 at *
  generalize hbe : zwB ws = bb at *
  have hB := yB_of (xz_bd hv)
  have hxj2 : xj.toInt = 2 := by
    obtain ⟨q1, q2⟩ := hxj
    have q1 : (2 : Int) ≤ xj.toInt := q1
    have q2 : xj.toInt ≤ (2 : Int) := q2
    omega
  refine lv_tableIn C.1 C.2.1 (zdaP zDL0 39 (by decide) rfl rfl) (by rw [hxj2]; decide) (by rw [hxj2]; decide) (off := 263) (by rw [hxj2]; rfl) (tgt := 302) (by decide) ?_
  refine lv_aload_n C.1 C.2.1 (zdaP zDL1 302 (by decide) rfl rfl) rfl (lv_at hlv 2 rfl) ?_
  refine zV_callV C (zcx_X7_riders E (d := 4) (by decide) (fun J => (yriders (I := xb_I f g0) hP hB) J _ xz_Rok)) rfl rfl (by decide) (by decide) (show vwCl[7]? = some (RX7, TX7, 16) from rfl) zw491 zw488 zw489 zw490 zw1 (n := 0) (by decide +kernel) (zdaP zDL1 303 (by decide) rfl rfl) rfl zvk0 (show 0 < 126 by decide) hv hlv.1 (by show 0 ≤ 8; decide) (by show 0 + K ≤ 601024; omega) (by show 0 + S ≤ 7293034; omega) (fun v f9 g9 ws H locs hp hv => ?_)
  obtain ⟨a1, I1, rfl, hPo, hag⟩ := hp
  have hq := hPo _ (xz_e hv hag) (yB_of (xz_bd hv))
  refine lv_pop C.1 C.2.1 (zdaP zDL1 306 (by decide) rfl rfl) rfl ?_
  refine lv_aload_n C.1 C.2.1 (zdaP zDL1 307 (by decide) rfl rfl) rfl (lv_at hlv 3 rfl) ?_
  refine zV_callV C (zcx_X8_riders E (d := 6) (by decide) (Po := fun b2 I2 => (False → a1 = b2) ∧ yP I2) (fun J => hq J _ xz_Rok)) rfl rfl (by decide) (by decide) (show vwCl[8]? = some (RX8, TX8, 51) from rfl) zw1340 zw1337 zw1338 zw1339 zw16 (n := 0) (by decide +kernel) (zdaP zDL1 308 (by decide) rfl rfl) rfl zvk94 (show 94 < 126 by decide) hv hlv.1 (by show 0 ≤ 8; decide) (by show 0 + K ≤ 601024; omega) (by show 0 + S ≤ 7293034; omega) (fun v f9 g9 ws H locs hp hv => ?_)
  obtain ⟨a2, I2, rfl, ⟨hab, hP2⟩, hag2⟩ := hp
  have hP3 := yP_eq (xz_e hv hag2) hP2
  refine lv_pop C.1 C.2.1 (zdaP zDL1 311 (by decide) rfl rfl) rfl ?_
  refine lv_goto C.1 C.2.1 (zdaP zDL1 312 (by decide) rfl rfl) (tgt := 1436) (by decide) ?_
  refine lv_iinc C.1 C.2.1 (zdaP zDL5 1436 (by decide) rfl rfl) hlv (k := 0) rfl rfl (by decide) (lv' := [(4, .int ((Int32.ofNat i) + Int32.ofInt 5)), (0, .ref o.1), (1, .ref (bb 0)), (2, .ref (bb 94)), (3, .ref (bb 125))]) rfl (fun ls hlv => ?_)
  rw [zinc5 hi] at hlv
  refine lv_goto C.1 C.2.1 (zdaP zDL5 1439 (by decide) rfl rfl) (tgt := 23) (by decide) ?_
  exact zcl9 (by omega) hn hlv hv (zqJ_of hv hP3)
set_option maxHeartbeats 8000000 in
theorem zsx_keep (E : zEnv tys) (C : zCx p room_1 s m #[Value.ref b] meth c0 D vwCl tys z (zXX o z) zTs RL cL_law 8 nm) (hX : va_X o.1 L xs s s.heap) (hbl : o.1 < s.heap.size) (hbA : ¬ zA z o.1) (hL : L ≤ 2560) {b1 b2 : zI} : zSpec p l e s m b below meth c0 D tys o z L xs zyI zqJ (.ofNat 46, .ofNat 46) b1 b2 := by
  intro i K S g ls H locs ws hg h5 hi hK hS hj hm1 hm2 vst S0 hR hn
  obtain ⟨⟨xj, rfl, hxj⟩, hlv, hv⟩ := zop9 hg S0
  have hP : yP (xb_I (zwV ws) (zwA ws)) := zqP_of hR
  generalize hfe : zwV ws = f at *
  generalize hge : zwA ws = g0 at *
  generalize hbe : zwB ws = bb at *
  have hB := yB_of (xz_bd hv)
  have hxj2 : xj.toInt = 46 := by
    obtain ⟨q1, q2⟩ := hxj
    have q1 : (46 : Int) ≤ xj.toInt := q1
    have q2 : xj.toInt ≤ (46 : Int) := q2
    omega
  refine lv_tableIn C.1 C.2.1 (zdaP zDL0 39 (by decide) rfl rfl) (by rw [hxj2]; decide) (by rw [hxj2]; decide) (off := 1294) (by rw [hxj2]; rfl) (tgt := 1333) (by decide) ?_
  refine lv_aload_n C.1 C.2.1 (zdaP zDL5 1333 (by decide) rfl rfl) rfl (lv_at hlv 2 rfl) ?_
  refine lv_aload_n C.1 C.2.1 (zdaP zDL5 1334 (by decide) rfl rfl) rfl (lv_at hlv 1 rfl) ?_
  refine lv_iload C.1 C.2.1 (zdaP zDL5 1335 (by decide) rfl rfl) (lv_at hlv 0 rfl) ?_
  refine lv_iconst C.1 C.2.1 (zdaP zDL5 1337 (by decide) rfl rfl) rfl ?_
  refine lv_iadd C.1 C.2.1 (zdaP zDL5 1338 (by decide) rfl rfl) ?_
  refine va_sld C.1 C.2.1 hX hbl hbA hv.2.2.2.1 (vp_in_iff.mpr ⟨by rw [show Int32.ofInt 1 = Int32.ofInt ((1 : Nat) : Int) by decide, zsc1 hi (by decide)]; omega, by rw [show Int32.ofInt 1 = Int32.ofInt ((1 : Nat) : Int) by decide, zsc1 hi (by decide)]; omega⟩) (zdaP zDL5 1339 (by decide) rfl rfl) ?_
  refine zV_callV C (zcx_X7_keep E (d := 2) (by decide) (x0 := xs (Int32.ofNat i + Int32.ofInt 1).toNatClampNeg) (fun J => (ykeep (I := xb_I f g0) (x := xs (Int32.ofNat i + Int32.ofInt 1).toNatClampNeg) hP hB) J _ xz_Rok)) rfl rfl (by decide) (by decide) (show vwCl[7]? = some (RX7, TX7, 16) from rfl) zw1072 zw1069 zw1070 zw1071 zw1 (n := 1) (by decide +kernel) (zdaP zDL5 1340 (by decide) rfl rfl) rfl zvk0 (show 0 < 126 by decide) hv hlv.1 (by show 0 ≤ 8; decide) (by show 0 + K ≤ 601024; omega) (by show 0 + S ≤ 7293034; omega) (fun v f9 g9 ws H locs hp hv => ?_)
  obtain ⟨a1, I1, rfl, hPo, hag⟩ := hp
  have hq := hPo _ (xz_e hv hag) (yB_of (xz_bd hv))
  refine lv_pop C.1 C.2.1 (zdaP zDL5 1343 (by decide) rfl rfl) rfl ?_
  refine lv_aload_n C.1 C.2.1 (zdaP zDL5 1344 (by decide) rfl rfl) rfl (lv_at hlv 3 rfl) ?_
  refine lv_aload_n C.1 C.2.1 (zdaP zDL5 1345 (by decide) rfl rfl) rfl (lv_at hlv 1 rfl) ?_
  refine lv_iload C.1 C.2.1 (zdaP zDL5 1346 (by decide) rfl rfl) (lv_at hlv 0 rfl) ?_
  refine lv_iconst C.1 C.2.1 (zdaP zDL5 1348 (by decide) rfl rfl) rfl ?_
  refine lv_iadd C.1 C.2.1 (zdaP zDL5 1349 (by decide) rfl rfl) ?_
  refine va_sld C.1 C.2.1 hX hbl hbA hv.2.2.2.1 (vp_in_iff.mpr ⟨by rw [show Int32.ofInt 1 = Int32.ofInt ((1 : Nat) : Int) by decide, zsc1 hi (by decide)]; omega, by rw [show Int32.ofInt 1 = Int32.ofInt ((1 : Nat) : Int) by decide, zsc1 hi (by decide)]; omega⟩) (zdaP zDL5 1350 (by decide) rfl rfl) ?_
  refine zV_callV C (zcx_X8_keep E (d := 2) (by decide) (x0 := xs (Int32.ofNat i + Int32.ofInt 1).toNatClampNeg) (Po := fun b2 I2 => (False → a1 = b2) ∧ yP I2) (fun J => hq J _ xz_Rok)) rfl rfl (by decide) (by decide) (show vwCl[8]? = some (RX8, TX8, 51) from rfl) zw1777 zw1774 zw1775 zw1776 zw16 (n := 1) (by decide +kernel) (zdaP zDL5 1351 (by decide) rfl rfl) rfl zvk94 (show 94 < 126 by decide) hv hlv.1 (by show 0 ≤ 8; decide) (by show 0 + K ≤ 601024; omega) (by show 0 + S ≤ 7293034; omega) (fun v f9 g9 ws H locs hp hv => ?_)
  obtain ⟨a2, I2, rfl, ⟨hab, hP2⟩, hag2⟩ := hp
  have hP3 := yP_eq (xz_e hv hag2) hP2
  refine lv_pop C.1 C.2.1 (zdaP zDL5 1354 (by decide) rfl rfl) rfl ?_
  refine lv_goto C.1 C.2.1 (zdaP zDL5 1355 (by decide) rfl rfl) (tgt := 1436) (by decide) ?_
  refine lv_iinc C.1 C.2.1 (zdaP zDL5 1436 (by decide) rfl rfl) hlv (k := 0) rfl rfl (by decide) (lv' := [(4, .int ((Int32.ofNat i) + Int32.ofInt 5)), (0, .ref o.1), (1, .ref (bb 0)), (2, .ref (bb 94)), (3, .ref (bb 125))]) rfl (fun ls hlv => ?_)
  rw [zinc5 hi] at hlv
  refine lv_goto C.1 C.2.1 (zdaP zDL5 1439 (by decide) rfl rfl) (tgt := 23) (by decide) ?_
  exact zcl9 (by omega) hn hlv hv (zqJ_of hv hP3)
end ZRNX
