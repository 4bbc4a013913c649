/-! ROUNDS OF THE LAW BY HAND -/
/-- THE TEXT's signs are one in both -/
noncomputable def zz0 (a : Option zAV) : Bool := match a with
  | some (.inl q) => zle 0 q.1.1 && zle q.1.2 0
  | _ => false
noncomputable def zjTc (c : zK) : Bool := match Nat.ble 100 c.2.2.1.1 with
  | true => (match zrget c.2.2.1.2.1 2 with
    | some (.inl (0, n2, r2)) => (match zrget c.2.2.1.2.1 99 with
      | some (.inl (3, n9, r9)) => Nat.beq n2 80 && (Nat.beq n9 80 && zfor (fun i => zz0 (zaget r2 i) && zz0 (zaget r9 i)) 80)
      | _ => false)
    | _ => false)
  | false => false
noncomputable def zjT : zJ := (fun d => zbit d 2 0 || zbit d 99 0, zjTc, fun ws => (∃ a x, ws[2]? = some (a, Sum.inl x)) ∧ (∃ a x, ws[99]? = some (a, Sum.inl x)) ∧ ∀ i, i < 80 → zwA ws 2 i = zwA ws 99 i &&& Int32.ofInt 255)
theorem zjT_ok {D : va_G} {tys : List (ClassId × FieldType)} {z : Nat} : zJok D tys z zjT := by
  refine ⟨fun d ws ws' hb hc h => ?_, fun o ws0 H0 c ls vst H locs ws S h => ?_⟩
  · have hb : (zbit d 2 0 || zbit d 99 0) = false := hb
    rw [Bool.or_eq_false_iff] at hb
    obtain ⟨⟨a2, x2, h2⟩, ⟨a9, x9, h9⟩, h3⟩ := h
    obtain ⟨e2, k2, q2⟩ := hc 2 a2 _ h2
    obtain ⟨y2, rfl, w2⟩ := q2
    obtain ⟨e9, k9, q9⟩ := hc 99 a9 _ h9
    obtain ⟨y9, rfl, w9⟩ := q9
    have w2 := w2 hb.1
    have w9 := w9 hb.2
    subst w2
    subst w9
    refine ⟨⟨_, _, k2⟩, ⟨_, _, k9⟩, fun i hi => ?_⟩
    have u2 : zwA ws' 2 = zwA ws 2 := by unfold zwA; rw [k2, h2]
    have u9 : zwA ws' 99 = zwA ws 99 := by unfold zwA; rw [k9, h9]
    rw [u2, u9]
    exact h3 i hi
  · have h : zjTc c = true := h
    unfold zjTc at h
    split at h
    · rename_i hl
      have hl := Nat.le_of_ble_eq_true hl
      split at h
      · rename_i n2 r2 hc2
        split at h
        · rename_i n9 r9 hc9
          simp only [Bool.and_eq_true] at h
          obtain ⟨e2, e9, hf⟩ := h
          have e2 := Nat.eq_of_beq_eq_true e2
          have e9 := Nat.eq_of_beq_eq_true e9
          subst e2
          subst e9
          obtain ⟨c2, a2, en2, g1, g2, g3⟩ := S.2.2.1.2 2 (by omega)
          obtain ⟨c9, a9, en9, k1, k2, k3⟩ := S.2.2.1.2 99 (by omega)
          rw [hc2] at g1
          cases g1
          rw [hc9] at k1
          cases k1
          obtain ⟨cA, hA, F, rfl, hF⟩ := g3
          obtain ⟨cB, hB, G, rfl, hG⟩ := k3
          refine ⟨⟨_, _, g2⟩, ⟨_, _, k2⟩, fun i hi => ?_⟩
          rw [zwA_of g2, zwA_of k2]
          have h1 := zfor_ok hf i hi
          obtain ⟨u, u1, u2⟩ := hF i hi
          obtain ⟨w, w1, w2⟩ := hG i hi
          rw [Bool.and_eq_true, u1, w1] at h1
          have key : ∀ (q : zAV) (x : Int32), zz0 (some q) = true → zgH o (zad ws) q (.int x) → x = 0 := by
            intro q x hq hx
            rcases q with q | q
            · have hq : (zle 0 q.1.1 && zle q.1.2 0) = true := hq
              rw [Bool.and_eq_true, zle_iff, zle_iff] at hq
              obtain ⟨y, hy, y1, y2⟩ := hx
              cases hy
              apply Int32.toInt_inj.mp
              rw [Int32.toInt_zero]
              omega
            · cases hq
          rw [key u _ h1.1 u2, key w _ h1.2 w2]
          decide
        · cases h
      · cases h
    · cases h
section ZRND
variable {p : Program} {l : Launch} {e : Env} {s : State} {m : MethodId} {below : List Frame} {meth : Method} {c0 : Code} {b : Nat} {D : va_G} {tys : List (ClassId × FieldType)} {o : zO} {z : Nat} {nm : String} {L : Nat} {xs : Nat → Int32}
/-- a round opens -/
theorem zop9 {g : Nat → Int32} {i : Nat} {jq : zI} {ls : Array Slot} {vst : List Value} {H : Heap} {locs : List Loc} {ws : va_W} (hg : g 4 = Int32.ofNat i) (S0 : zSat D vwCl tys (zwith o g) z ws 8 s.heap (zcL9 0 zyI jq) ls vst H locs ws) : (∃ x : Int32, vst = [.int x] ∧ zmi jq x) ∧ lv_has ls 8 [(4, .int (Int32.ofNat i)), (0, .ref o.1), (1, .ref (zwB ws 0)), (2, .ref (zwB ws 94)), (3, .ref (zwB ws 125))] ∧ zV zyI D tys o z s.heap (zwB ws) (zwV ws) (zwA ws) ws H locs := by
  obtain ⟨⟨lv, s1, s2⟩, s3, s4, s5, s6, s7, s8⟩ := S0
  refine ⟨?_, ?_, ⟨⟨s4.1, s4.2⟩, s5, s6, s7, rfl, rfl, rfl⟩⟩
  · obtain ⟨v, t, rfl, h1, h2⟩ := zr2_cons s3
    have e := zr2_nil h2
    subst e
    obtain ⟨x, rfl, hx, -⟩ := zint h1
    exact ⟨x, rfl, hx⟩
  · obtain ⟨⟨j4, v4⟩, lv4, rfl, ⟨a1, a2⟩, a3⟩ := zr2_cons s2
    obtain ⟨⟨j0, v0⟩, lv0, rfl, ⟨b1, b2⟩, b3⟩ := zr2_cons a3
    obtain ⟨⟨j1, v1⟩, lv1, rfl, ⟨c1, c2⟩, c3⟩ := zr2_cons b3
    obtain ⟨⟨j2, v2⟩, lv2, rfl, ⟨d1, d2⟩, d3⟩ := zr2_cons c3
    obtain ⟨⟨j3, v3⟩, lv3, rfl, ⟨e1, e2⟩, e3⟩ := zr2_cons d3
    have hnil := zr2_nil e3
    subst hnil
    have a1 : 4 = j4 := a1
    have b1 : 0 = j0 := b1
    have c1 : 1 = j1 := c1
    have d1 : 2 = j2 := d1
    have e1 : 3 = j3 := e1
    have b2 : v0 = .ref o.1 := b2
    subst a1
    subst b1
    subst c1
    subst d1
    subst e1
    subst b2
    obtain ⟨x4, rfl, -, tx⟩ := a2
    have tx : x4 = g 4 + Int32.ofInt (.ofNat 0) := (ztg_eq (q := (4, .ofNat 0)) (by decide)).mp tx
    have ex : x4 = Int32.ofNat i := by rw [tx, hg]; exact Int32.add_zero _
    subst ex
    obtain ⟨q1, hq1, rfl⟩ := c2
    obtain ⟨q2, hq2, rfl⟩ := d2
    obtain ⟨q3, hq3, rfl⟩ := e2
    obtain ⟨n1, m1⟩ := zad_some hq1
    obtain ⟨n2, m2⟩ := zad_some hq2
    obtain ⟨n3, m3⟩ := zad_some hq3
    rw [zwB_of m1, zwB_of m2, zwB_of m3]
    exact s1
/-- a round closes -/
theorem zcl9 {Js : List zJ} {i K S : Nat} (hi : i + 5 ≤ 2560) (hn : zNx p l e s m b below meth c0 D tys o z zyI Js i K S) {ls : Array Slot} {H : Heap} {locs : List Loc} {ws : va_W} {bb : Nat → Nat} {f : Nat → Nat → Value} {g : Nat → Nat → Int32} (hlv : lv_has ls 8 [(4, .int (Int32.ofNat (i + 5))), (0, .ref o.1), (1, .ref (bb 0)), (2, .ref (bb 94)), (3, .ref (bb 125))]) (hv : zV zyI D tys o z s.heap bb f g ws H locs) (hR : ∀ q ∈ Js, q.2.2 ws) : W p l e room_1 s m #[Value.ref b] below meth c0 H locs (0 + K) (0 + S) (lw_Z below #[Value.ref b] s) (F0 m 23 ls []) := by
  have e5 : (Int32.ofNat (i + 5)).toInt = ((i + 5 : Nat) : Int) := zonB (by omega)
  have e4 : zgv ls 4 = Int32.ofNat (i + 5) := zgv_lo (by decide) (lv_at hlv 0 rfl)
  refine W.widen (k := 0 + (K + 1)) (n := 0 + (S + 6)) (by omega) (by omega) (hn ls H locs ws ⟨⟨_, hlv, ⟨rfl, _, rfl, ⟨?_, ?_⟩, ?_⟩, ⟨rfl, rfl⟩, ⟨rfl, _, zV_ad hv (show 0 < 126 by decide), rfl⟩, ⟨rfl, _, zV_ad hv (show 94 < 126 by decide), rfl⟩, ⟨rfl, _, zV_ad hv (show 125 < 126 by decide), rfl⟩, trivial⟩, trivial, ⟨hv.1.1, hv.1.2⟩, hv.2.1, hv.2.2.1, hv.2.2.2.1, fun k a e he => by simp at he⟩ e4 hR)
  · show (0 : Int) ≤ (Int32.ofNat (i + 5)).toInt
    omega
  · show (Int32.ofNat (i + 5)).toInt ≤ (2560 : Int)
    omega
  · refine (ztg_eq (q := (4, .ofNat 0)) (by decide)).mpr ?_
    show Int32.ofNat (i + 5) = zgv ls 4 + Int32.ofInt (.ofNat 0)
    rw [e4]
    exact (Int32.add_zero _).symm
theorem zjp_of {H0 H : Heap} {locs : List Loc} {ws : va_W} {bb : Nat → Nat} {f : Nat → Nat → Value} {g : Nat → Nat → Int32} (hv : zV zyI D tys o z H0 bb f g ws H locs) {k j k' j' ci ci' : Nat} {gs gs' : List zAV} {a0 a0' : zAV} (hc : zrget zyI.2.1 k = some (.inr (ci, gs))) (hk : k < 126) (hj : gs[j]? = some a0) (hc' : zrget zyI.2.1 k' = some (.inr (ci', gs'))) (hk' : k' < 126) (hj' : gs'[j']? = some a0') {x : Int32} (e1 : f k j = .int x) (e2 : f k' j' = .int x) : (zjp (k, j, k', j')).2.2 ws := by
  obtain ⟨vs, h1, -, h3⟩ := zV_ob hv hc hk
  obtain ⟨vs', h1', -, h3'⟩ := zV_ob hv hc' hk'
  exact ⟨_, _, _, _, vs, vs', x, h1, h1', by rw [h3 j (List.getElem?_eq_some_iff.mp hj).1, e1], by rw [h3' j' (List.getElem?_eq_some_iff.mp hj').1, e2]⟩
theorem zjp_to {H0 H : Heap} {locs : List Loc} {ws : va_W} {bb : Nat → Nat} {f : Nat → Nat → Value} {g : Nat → Nat → Int32} (hv : zV zyI D tys o z H0 bb f g ws H locs) {k j k' j' : Nat} (h : (zjp (k, j, k', j')).2.2 ws) : ∃ x : Int32, f k j = .int x ∧ f k' j' = .int x := by
  obtain ⟨a1, c1, a2, c2, v1, v2, x, h1, h2, h3, h4⟩ := h
  exact ⟨x, by rw [← hv.2.2.2.2.2.1]; exact zwV_of h1 h3, by rw [← hv.2.2.2.2.2.1]; exact zwV_of h2 h4⟩
theorem zjT_of {H0 H : Heap} {locs : List Loc} {ws : va_W} {bb : Nat → Nat} {f : Nat → Nat → Value} {g : Nat → Nat → Int32} (hv : zV zyI D tys o z H0 bb f g ws H locs) (hT : ∀ i, i < 80 → g 2 i = g 99 i &&& Int32.ofInt 255) : zjT.2.2 ws := by
  obtain ⟨c2, -, h2, -⟩ := zV_ar0 hv zvk2 (show 2 < 126 by decide)
  obtain ⟨c9, -, h9, -⟩ := zV_ar3 hv zvk99 (show 99 < 126 by decide)
  refine ⟨⟨_, _, h2⟩, ⟨_, _, h9⟩, ?_⟩
  rw [hv.2.2.2.2.2.2]
  exact hT
theorem zofI {x : Int32} {n0 : Int} (h : zmi (.ofNat 0, n0) x) (h8 : n0 ≤ 80) : ∃ n : Nat, x = Int32.ofNat n ∧ (n : Int) ≤ n0 := by
  obtain ⟨h1, h2⟩ := h
  have h1 : (0 : Int) ≤ x.toInt := h1
  have h2 : x.toInt ≤ n0 := h2
  obtain ⟨n, hn⟩ : ∃ n : Nat, x.toInt = (n : Int) := ⟨x.toInt.toNat, by omega⟩
  refine ⟨n, ?_, by omega⟩
  apply Int32.toInt_inj.mp
  rw [hn, zon (by omega)]
theorem zT_u {A B : Nat → Int32} {a c : Int32} {n : Nat} (h : ∀ i, i < 80 → A i = B i &&& Int32.ofInt 255) (hac : a = c &&& Int32.ofInt 255) : ∀ i, i < 80 → upd A n a i = upd B n c i &&& Int32.ofInt 255 := by
  intro i hi
  unfold upd
  split
  · exact hac
  · exact h i hi
theorem zs255 (y : BitVec 32) (s : Nat) (hs : s ≤ 24) : (y >>> s) &&& 255#32 = (y.sshiftRight s) &&& 255#32 := by
  apply BitVec.eq_of_getLsbD_eq
  intro i hi
  rw [BitVec.getLsbD_and, BitVec.getLsbD_and]
  by_cases h : i < 8
  · rw [BitVec.getLsbD_ushiftRight, BitVec.getLsbD_sshiftRight]
    simp [hi, show s + i < 32 by omega, show ¬ 32 ≤ i by omega]
  · have h2 : (255#32).getLsbD i = false := by
      rw [show (255#32) = BitVec.setWidth 32 (BitVec.allOnes 8) by decide, BitVec.getLsbD_setWidth, BitVec.getLsbD_allOnes]
      simp [h]
    rw [h2, Bool.and_false, Bool.and_false]
theorem z44 (v : Int32) : ∀ k : Nat, k < 4 → zc4 v k = vp_nar .byte (zr4 v k) &&& Int32.ofInt 255 := by
  intro k hk
  have h1 : vp_nar .byte (zr4 v k) &&& Int32.ofInt 255 = (v >>> ((Int8.ofInt 8).toInt32 * Int32.ofInt (k : Int) &&& 31)) &&& Int32.ofInt 255 := (zr4_b (zr4 v k)).trans (zr4_b _)
  rw [h1]
  apply Int32.toBitVec_inj.mp
  match k, hk with
  | 0, _ => exact zs255 v.toBitVec 0 (by decide)
  | 1, _ => exact zs255 v.toBitVec 8 (by decide)
  | 2, _ => exact zs255 v.toBitVec 16 (by decide)
  | 3, _ => exact zs255 v.toBitVec 24 (by decide)
theorem zD_cg {c N : Nat} {S S' : Nat → Int32} (h : ∀ i, i < N → S i = S' i) : ∀ p, p ≤ N → zD c S p = zD c S' p
  | 0, _ => rfl
  | p + 1, hp => by
    show (match zD c S p with
      | none => none
      | some q => zds c (S p).toInt q) = (match zD c S' p with
      | none => none
      | some q => zds c (S' p).toInt q)
    rw [zD_cg h p (by omega), h p (by omega)]
theorem zFl_cg {c n t w : Nat} {S S' : Nat → Int32} (h : ∀ i, i < 80 → S i = S' i) (hn : n ≤ 80) (hF : zFl c S n t w) : zFl c S' n t w := by
  obtain ⟨q, h1, h2, h3, h4⟩ := hF
  refine ⟨q, by rw [← zD_cg h w (by omega)]; exact h1, h2, h3, ?_⟩
  rcases h4 with ⟨h5, h6, h7⟩ | h5
  · exact Or.inl ⟨h5, h6, by rw [← zD_cg h (w + 1) (by omega)]; exact h7⟩
  · exact Or.inr h5
theorem zAn_cg {c n d : Nat} {x : Int32} {S S' : Nat → Int32} (h : ∀ i, i < 80 → S i = S' i) (hn : n ≤ 80) (hA : zAn c S n x d) : zAn c S' n x d := by
  rcases hA with h1 | ⟨h0, w, hw, h1⟩ | ⟨h0, h1, l, k, h2, h3⟩
  · exact Or.inl h1
  · refine Or.inr (Or.inl ⟨h0, w, ?_, h1⟩)
    rcases hw with hw | ⟨e1, e2, q, e3⟩
    · exact Or.inl (zFl_cg h hn hw)
    · exact Or.inr ⟨e1, e2, q, by rw [← zD_cg h 76 (by omega)]; exact e3⟩
  · exact Or.inr (Or.inr ⟨h0, h1, l, k, by rw [← zD_cg h n (by omega)]; exact h2, h3⟩)
theorem zsc1 {i k : Nat} (hi : i ≤ 2560) (hk : k ≤ 5) : (Int32.ofNat i + Int32.ofInt (k : Int)).toInt = ((i + k : Nat) : Int) := by
  have e : (Int32.ofInt (k : Int)).toInt = (k : Int) := by
    have := (by decide : ∀ k : Nat, k < 6 → (Int32.ofInt (k : Int)).toInt = (k : Int))
    exact this k (by omega)
  rw [Int32.toInt_add, zonB (show i < 2147483648 by omega), e, zbm (B := 2147483648) (by decide) (by omega) (by omega)]
  omega
theorem zinc5 {i : Nat} (hi : i ≤ 2560) : Int32.ofNat i + Int32.ofInt 5 = Int32.ofNat (i + 5) := by
  apply Int32.toInt_inj.mp
  rw [zonB (show i + 5 < 2147483648 by omega)]
  exact zsc1 hi (by decide)
noncomputable def zyT3 : List zJ := [zjp (1, 1, 94, 8), zjT, zjp (3, 6, 94, 3), zjp (0, 13, 94, 45)]
set_option maxHeartbeats 8000000 in
theorem zsp_sign (E : zEnv tys) (C : zCx p room_1 s m #[Value.ref b] meth c0 D vwCl tys z (zXX o z) zTs RL cL_law 8 nm) (hX : va_X o.1 L xs s s.heap) (hbl : o.1 < s.heap.size) (hbA : ¬ zA z o.1) (hL : L ≤ 2560) {b1 b2 : zI} : zSpec p l e s m b below meth c0 D tys o z L xs zyI zyT3 (.ofNat 0, .ofNat 0) b1 b2 := by
  intro i K S g ls H locs ws hg h5 hi hK hS hj hm1 hm2 vst S0 hR hn
  obtain ⟨⟨xj, rfl, hxj⟩, hlv, hv⟩ := zop9 hg S0
  obtain ⟨x1, hy1, hy2⟩ := zjp_to hv (hR (zjp (1, 1, 94, 8)) (by unfold zyT3; simp))
  obtain ⟨x3, hM1, hM2⟩ := zjp_to hv (hR (zjp (3, 6, 94, 3)) (by unfold zyT3; simp))
  obtain ⟨-, -, hT⟩ := hR zjT (by unfold zyT3; simp)
  obtain ⟨z0, hE0a, hE0b⟩ := zjp_to hv (hR (zjp (0, 13, 94, 45)) (by unfold zyT3; simp))
  obtain ⟨y1, e1, r1⟩ := zV_int hv zvk94 (show 94 < 126 by decide) (j := 8) rfl
  obtain ⟨y3, e3, r3⟩ := zV_int hv zvk94 (show 94 < 126 by decide) (j := 3) rfl
  rw [hy2] at e1
  rw [hM2] at e3
  cases e1
  cases e3
  obtain ⟨n, rfl, hn8⟩ := zofI r1 (by decide)
  obtain ⟨c, rfl, hc8⟩ := zofI r3 (by decide)
  have hn8 : n ≤ 80 := by
    have q : (n : Int) ≤ 80 := hn8
    omega
  have hc8 : c ≤ 8 := by
    have q : (c : Int) ≤ 8 := hc8
    omega
  generalize hfe : zwV ws = f at *
  generalize hge : zwA ws = g0 at *
  generalize hbe : zwB ws = bb at *
  have hxj2 : xj.toInt = 0 := by
    obtain ⟨q1, q2⟩ := hxj
    have q1 : (0 : Int) ≤ xj.toInt := q1
    have q2 : xj.toInt ≤ (0 : Int) := q2
    omega
  refine lv_tableIn C.1 C.2.1 (zdaP zDL0 39 (by decide) rfl rfl) (by rw [hxj2]; decide) (by rw [hxj2]; decide) (off := 213) (by rw [hxj2]; rfl) (tgt := 252) (by decide) ?_
  refine lv_aload_n C.1 C.2.1 (zdaP zDL0 252 (by decide) rfl rfl) rfl (lv_at hlv 2 rfl) ?_
  refine lv_aload_n C.1 C.2.1 (zdaP zDL0 253 (by decide) rfl rfl) rfl (lv_at hlv 1 rfl) ?_
  refine lv_iload C.1 C.2.1 (zdaP zDL0 254 (by decide) rfl rfl) (lv_at hlv 0 rfl) ?_
  refine lv_iconst C.1 C.2.1 (zdaP zDL1 256 (by decide) rfl rfl) rfl ?_
  refine lv_iadd C.1 C.2.1 (zdaP zDL1 257 (by decide) rfl rfl) ?_
  refine va_sld C.1 C.2.1 hX hbl hbA hv.2.2.2.1 (vp_in_iff.mpr ⟨by rw [show Int32.ofInt 1 = Int32.ofInt ((1 : Nat) : Int) by decide, zsc1 hi (by decide)]; omega, by rw [show Int32.ofInt 1 = Int32.ofInt ((1 : Nat) : Int) by decide, zsc1 hi (by decide)]; omega⟩) (zdaP zDL1 258 (by decide) rfl rfl) ?_
  refine zV_callV C (zc_sgn (v0 := xs (Int32.ofNat i + Int32.ofInt 1).toNatClampNeg) hy1 hn8) rfl rfl (by decide) (by decide) (show vwCl[7]? = some (RX7, TX7, 16) from rfl) zw475 zw472 zw473 zw474 zw1 (n := 1) (by decide +kernel) (zdaP zDL1 259 (by decide) rfl rfl) rfl zvk0 (show 0 < 126 by decide) hv hlv.1 (by show 0 ≤ 8; decide) (by show 0 + K ≤ 601024; omega) (by show 0 + S ≤ 7293034; omega) (fun v f9 g9 ws H locs hp hv => ?_)
  rcases hp with ⟨h1, rfl, rfl, rfl⟩ | ⟨h1, rfl, hf1, hfo, rfl⟩
  · refine lv_pop C.1 C.2.1 (zdaP zDL1 262 (by decide) rfl rfl) rfl ?_
    refine lv_aload_n C.1 C.2.1 (zdaP zDL1 263 (by decide) rfl rfl) rfl (lv_at hlv 3 rfl) ?_
    refine lv_aload_n C.1 C.2.1 (zdaP zDL1 264 (by decide) rfl rfl) rfl (lv_at hlv 1 rfl) ?_
    refine lv_iload C.1 C.2.1 (zdaP zDL1 265 (by decide) rfl rfl) (lv_at hlv 0 rfl) ?_
    refine lv_iconst C.1 C.2.1 (zdaP zDL1 267 (by decide) rfl rfl) rfl ?_
    refine lv_iadd C.1 C.2.1 (zdaP zDL1 268 (by decide) rfl rfl) ?_
    refine va_sld C.1 C.2.1 hX hbl hbA hv.2.2.2.1 (vp_in_iff.mpr ⟨by rw [show Int32.ofInt 1 = Int32.ofInt ((1 : Nat) : Int) by decide, zsc1 hi (by decide)]; omega, by rw [show Int32.ofInt 1 = Int32.ofInt ((1 : Nat) : Int) by decide, zsc1 hi (by decide)]; omega⟩) (zdaP zDL1 269 (by decide) rfl rfl) ?_
    refine zV_callV C (zr_sgn (v0 := xs (Int32.ofNat i + Int32.ofInt 1).toNatClampNeg) hy2 hn8) rfl rfl (by decide) (by decide) (show vwCl[8]? = some (RX8, TX8, 51) from rfl) zw1329 zw1326 zw1327 zw1328 zw16 (n := 1) (by decide +kernel) (zdaP zDL1 270 (by decide) rfl rfl) rfl zvk94 (show 94 < 126 by decide) hv hlv.1 (by show 0 ≤ 8; decide) (by show 0 + K ≤ 601024; omega) (by show 0 + S ≤ 7293034; omega) (fun v f9 g9 ws H locs hp hv => ?_)
    rcases hp with ⟨h2, rfl, k1, k3, rfl⟩ | ⟨h2, -⟩
    · refine lv_pop C.1 C.2.1 (zdaP zDL1 273 (by decide) rfl rfl) rfl ?_
      refine lv_goto C.1 C.2.1 (zdaP zDL1 274 (by decide) rfl rfl) (tgt := 1436) (by decide) ?_
      refine lv_iinc C.1 C.2.1 (zdaP zDL5 1436 (by decide) rfl rfl) hlv (k := 0) rfl rfl (by decide) (lv' := [(4, .int ((Int32.ofNat i) + Int32.ofInt 5)), (0, .ref o.1), (1, .ref (bb 0)), (2, .ref (bb 94)), (3, .ref (bb 125))]) rfl (fun ls hlv => ?_)
      rw [zinc5 hi] at hlv
      refine lv_goto C.1 C.2.1 (zdaP zDL5 1439 (by decide) rfl rfl) (tgt := 23) (by decide) ?_
      refine zcl9 (by omega) hn hlv hv ?_
      intro q hq
      unfold zyT3 at hq
      simp only [List.mem_cons, List.not_mem_nil, or_false] at hq
      rcases hq with rfl | rfl | rfl | rfl
      · exact zjp_of hv zvk1 (by decide) rfl zvk94 (by decide) rfl ((k3 1 1 (by decide)).trans hy1) (k1)
      · exact zjT_of hv (hT)
      · exact zjp_of hv zvk3 (by decide) rfl zvk94 (by decide) rfl ((k3 3 6 (by decide)).trans hM1) ((k3 94 3 (by decide)).trans hM2)
      · exact zjp_of hv zvk0 (by decide) rfl zvk94 (by decide) rfl ((k3 0 13 (by decide)).trans hE0a) ((k3 94 45 (by decide)).trans hE0b)
    · omega
  · refine lv_pop C.1 C.2.1 (zdaP zDL1 262 (by decide) rfl rfl) rfl ?_
    refine lv_aload_n C.1 C.2.1 (zdaP zDL1 263 (by decide) rfl rfl) rfl (lv_at hlv 3 rfl) ?_
    refine lv_aload_n C.1 C.2.1 (zdaP zDL1 264 (by decide) rfl rfl) rfl (lv_at hlv 1 rfl) ?_
    refine lv_iload C.1 C.2.1 (zdaP zDL1 265 (by decide) rfl rfl) (lv_at hlv 0 rfl) ?_
    refine lv_iconst C.1 C.2.1 (zdaP zDL1 267 (by decide) rfl rfl) rfl ?_
    refine lv_iadd C.1 C.2.1 (zdaP zDL1 268 (by decide) rfl rfl) ?_
    refine va_sld C.1 C.2.1 hX hbl hbA hv.2.2.2.1 (vp_in_iff.mpr ⟨by rw [show Int32.ofInt 1 = Int32.ofInt ((1 : Nat) : Int) by decide, zsc1 hi (by decide)]; omega, by rw [show Int32.ofInt 1 = Int32.ofInt ((1 : Nat) : Int) by decide, zsc1 hi (by decide)]; omega⟩) (zdaP zDL1 269 (by decide) rfl rfl) ?_
    refine zV_callV C (zr_sgn (v0 := xs (Int32.ofNat i + Int32.ofInt 1).toNatClampNeg) ((hfo 94 8 (by decide)).trans hy2) hn8) rfl rfl (by decide) (by decide) (show vwCl[8]? = some (RX8, TX8, 51) from rfl) zw1329 zw1326 zw1327 zw1328 zw16 (n := 1) (by decide +kernel) (zdaP zDL1 270 (by decide) rfl rfl) rfl zvk94 (show 94 < 126 by decide) hv hlv.1 (by show 0 ≤ 8; decide) (by show 0 + K ≤ 601024; omega) (by show 0 + S ≤ 7293034; omega) (fun v f9 g9 ws H locs hp hv => ?_)
    rcases hp with ⟨h2, -⟩ | ⟨h2, rfl, k1, k3, rfl⟩
    · omega
    · refine lv_pop C.1 C.2.1 (zdaP zDL1 273 (by decide) rfl rfl) rfl ?_
      refine lv_goto C.1 C.2.1 (zdaP zDL1 274 (by decide) rfl rfl) (tgt := 1436) (by decide) ?_
      refine lv_iinc C.1 C.2.1 (zdaP zDL5 1436 (by decide) rfl rfl) hlv (k := 0) rfl rfl (by decide) (lv' := [(4, .int ((Int32.ofNat i) + Int32.ofInt 5)), (0, .ref o.1), (1, .ref (bb 0)), (2, .ref (bb 94)), (3, .ref (bb 125))]) rfl (fun ls hlv => ?_)
      rw [zinc5 hi] at hlv
      refine lv_goto C.1 C.2.1 (zdaP zDL5 1439 (by decide) rfl rfl) (tgt := 23) (by decide) ?_
      refine zcl9 (by omega) hn hlv hv ?_
      intro q hq
      unfold zyT3 at hq
      simp only [List.mem_cons, List.not_mem_nil, or_false] at hq
      rcases hq with rfl | rfl | rfl | rfl
      · exact zjp_of hv zvk1 (by decide) rfl zvk94 (by decide) rfl ((k3 1 1 (by decide)).trans hf1) (k1)
      · exact zjT_of hv (zT_u (zT_u (zT_u (zT_u hT (z44 _ 3 (by decide))) (z44 _ 2 (by decide))) (z44 _ 1 (by decide))) (z44 _ 0 (by decide)))
      · exact zjp_of hv zvk3 (by decide) rfl zvk94 (by decide) rfl ((k3 3 6 (by decide)).trans ((hfo 3 6 (by decide)).trans hM1)) ((k3 94 3 (by decide)).trans ((hfo 94 3 (by decide)).trans hM2))
      · exact zjp_of hv zvk0 (by decide) rfl zvk94 (by decide) rfl (((k3 0 13 (by decide)).trans (hfo 0 13 (by decide))).trans hE0a) (((k3 94 45 (by decide)).trans (hfo 94 45 (by decide))).trans hE0b)
set_option maxHeartbeats 8000000 in
theorem zsp_end (E : zEnv tys) (C : zCx p room_1 s m #[Value.ref b] meth c0 D vwCl tys z (zXX o z) zTs RL cL_law 8 nm) (hX : va_X o.1 L xs s s.heap) (hbl : o.1 < s.heap.size) (hbA : ¬ zA z o.1) (hL : L ≤ 2560) {b1 b2 : zI} : zSpec p l e s m b below meth c0 D tys o z L xs zyI zyT3 (.ofNat 1, .ofNat 1) b1 b2 := by
  intro i K S g ls H locs ws hg h5 hi hK hS hj hm1 hm2 vst S0 hR hn
  obtain ⟨⟨xj, rfl, hxj⟩, hlv, hv⟩ := zop9 hg S0
  obtain ⟨x1, hy1, hy2⟩ := zjp_to hv (hR (zjp (1, 1, 94, 8)) (by unfold zyT3; simp))
  obtain ⟨x3, hM1, hM2⟩ := zjp_to hv (hR (zjp (3, 6, 94, 3)) (by unfold zyT3; simp))
  obtain ⟨-, -, hT⟩ := hR zjT (by unfold zyT3; simp)
  obtain ⟨z0, hE0a, hE0b⟩ := zjp_to hv (hR (zjp (0, 13, 94, 45)) (by unfold zyT3; simp))
  obtain ⟨y1, e1, r1⟩ := zV_int hv zvk94 (show 94 < 126 by decide) (j := 8) rfl
  obtain ⟨y3, e3, r3⟩ := zV_int hv zvk94 (show 94 < 126 by decide) (j := 3) rfl
  rw [hy2] at e1
  rw [hM2] at e3
  cases e1
  cases e3
  obtain ⟨n, rfl, hn8⟩ := zofI r1 (by decide)
  obtain ⟨c, rfl, hc8⟩ := zofI r3 (by decide)
  have hn8 : n ≤ 80 := by
    have q : (n : Int) ≤ 80 := hn8
    omega
  have hc8 : c ≤ 8 := by
    have q : (c : Int) ≤ 8 := hc8
    omega
  generalize hfe : zwV ws = f at *
  generalize hge : zwA ws = g0 at *
  generalize hbe : zwB ws = bb at *
  have hxj2 : xj.toInt = 1 := by
    obtain ⟨q1, q2⟩ := hxj
    have q1 : (1 : Int) ≤ xj.toInt := q1
    have q2 : xj.toInt ≤ (1 : Int) := q2
    omega
  refine lv_tableIn C.1 C.2.1 (zdaP zDL0 39 (by decide) rfl rfl) (by rw [hxj2]; decide) (by rw [hxj2]; decide) (off := 238) (by rw [hxj2]; rfl) (tgt := 277) (by decide) ?_
  refine lv_aload_n C.1 C.2.1 (zdaP zDL1 277 (by decide) rfl rfl) rfl (lv_at hlv 2 rfl) ?_
  refine lv_aload_n C.1 C.2.1 (zdaP zDL1 278 (by decide) rfl rfl) rfl (lv_at hlv 1 rfl) ?_
  refine lv_iload C.1 C.2.1 (zdaP zDL1 279 (by decide) rfl rfl) (lv_at hlv 0 rfl) ?_
  refine lv_iconst C.1 C.2.1 (zdaP zDL1 281 (by decide) rfl rfl) rfl ?_
  refine lv_iadd C.1 C.2.1 (zdaP zDL1 282 (by decide) rfl rfl) ?_
  refine va_sld C.1 C.2.1 hX hbl hbA hv.2.2.2.1 (vp_in_iff.mpr ⟨by rw [show Int32.ofInt 1 = Int32.ofInt ((1 : Nat) : Int) by decide, zsc1 hi (by decide)]; omega, by rw [show Int32.ofInt 1 = Int32.ofInt ((1 : Nat) : Int) by decide, zsc1 hi (by decide)]; omega⟩) (zdaP zDL1 283 (by decide) rfl rfl) ?_
  refine zV_callV C (zc_end (x := xs (Int32.ofNat i + Int32.ofInt 1).toNatClampNeg) hy1 hn8) rfl rfl (by decide) (by decide) (show vwCl[7]? = some (RX7, TX7, 16) from rfl) zw483 zw480 zw481 zw482 zw1 (n := 1) (by decide +kernel) (zdaP zDL1 284 (by decide) rfl rfl) rfl zvk0 (show 0 < 126 by decide) hv hlv.1 (by show 0 ≤ 8; decide) (by show 0 + K ≤ 601024; omega) (by show 0 + S ≤ 7293034; omega) (fun v f9 g9 ws H locs hp hv => ?_)
  obtain ⟨⟨h1, rfl, hf1⟩ | ⟨h1, rfl, hf1⟩, hfo, rfl⟩ := hp
  · refine lv_pop C.1 C.2.1 (zdaP zDL1 287 (by decide) rfl rfl) rfl ?_
    refine lv_aload_n C.1 C.2.1 (zdaP zDL1 288 (by decide) rfl rfl) rfl (lv_at hlv 3 rfl) ?_
    refine lv_aload_n C.1 C.2.1 (zdaP zDL1 289 (by decide) rfl rfl) rfl (lv_at hlv 1 rfl) ?_
    refine lv_iload C.1 C.2.1 (zdaP zDL1 290 (by decide) rfl rfl) (lv_at hlv 0 rfl) ?_
    refine lv_iconst C.1 C.2.1 (zdaP zDL1 292 (by decide) rfl rfl) rfl ?_
    refine lv_iadd C.1 C.2.1 (zdaP zDL1 293 (by decide) rfl rfl) ?_
    refine va_sld C.1 C.2.1 hX hbl hbA hv.2.2.2.1 (vp_in_iff.mpr ⟨by rw [show Int32.ofInt 1 = Int32.ofInt ((1 : Nat) : Int) by decide, zsc1 hi (by decide)]; omega, by rw [show Int32.ofInt 1 = Int32.ofInt ((1 : Nat) : Int) by decide, zsc1 hi (by decide)]; omega⟩) (zdaP zDL1 294 (by decide) rfl rfl) ?_
    refine zV_callV C (zr_end (x := xs (Int32.ofNat i + Int32.ofInt 1).toNatClampNeg) ((hfo 94 8 (by decide)).trans hy2) hn8) rfl rfl (by decide) (by decide) (show vwCl[8]? = some (RX8, TX8, 51) from rfl) zw1333 zw1330 zw1331 zw1332 zw16 (n := 1) (by decide +kernel) (zdaP zDL1 295 (by decide) rfl rfl) rfl zvk94 (show 94 < 126 by decide) hv hlv.1 (by show 0 ≤ 8; decide) (by show 0 + K ≤ 601024; omega) (by show 0 + S ≤ 7293034; omega) (fun v f9 g9 ws H locs hp hv => ?_)
    obtain ⟨⟨h2, rfl, k1⟩ | ⟨h2, rfl, k1⟩, k3, rfl⟩ := hp
    · refine lv_pop C.1 C.2.1 (zdaP zDL1 298 (by decide) rfl rfl) rfl ?_
      refine lv_goto C.1 C.2.1 (zdaP zDL1 299 (by decide) rfl rfl) (tgt := 1436) (by decide) ?_
      refine lv_iinc C.1 C.2.1 (zdaP zDL5 1436 (by decide) rfl rfl) hlv (k := 0) rfl rfl (by decide) (lv' := [(4, .int ((Int32.ofNat i) + Int32.ofInt 5)), (0, .ref o.1), (1, .ref (bb 0)), (2, .ref (bb 94)), (3, .ref (bb 125))]) rfl (fun ls hlv => ?_)
      rw [zinc5 hi] at hlv
      refine lv_goto C.1 C.2.1 (zdaP zDL5 1439 (by decide) rfl rfl) (tgt := 23) (by decide) ?_
      refine zcl9 (by omega) hn hlv hv ?_
      intro q hq
      unfold zyT3 at hq
      simp only [List.mem_cons, List.not_mem_nil, or_false] at hq
      rcases hq with rfl | rfl | rfl | rfl
      · exact zjp_of hv zvk1 (by decide) rfl zvk94 (by decide) rfl ((k3 1 1 (by decide)).trans hf1) (k1)
      · exact zjT_of hv (hT)
      · exact zjp_of hv zvk3 (by decide) rfl zvk94 (by decide) rfl ((k3 3 6 (by decide)).trans ((hfo 3 6 (by decide)).trans hM1)) ((k3 94 3 (by decide)).trans ((hfo 94 3 (by decide)).trans hM2))
      · exact zjp_of hv zvk0 (by decide) rfl zvk94 (by decide) rfl (((k3 0 13 (by decide)).trans (hfo 0 13 (by decide))).trans hE0a) (((k3 94 45 (by decide)).trans (hfo 94 45 (by decide))).trans hE0b)
    · exact absurd h2 h1
  · refine lv_pop C.1 C.2.1 (zdaP zDL1 287 (by decide) rfl rfl) rfl ?_
    refine lv_aload_n C.1 C.2.1 (zdaP zDL1 288 (by decide) rfl rfl) rfl (lv_at hlv 3 rfl) ?_
    refine lv_aload_n C.1 C.2.1 (zdaP zDL1 289 (by decide) rfl rfl) rfl (lv_at hlv 1 rfl) ?_
    refine lv_iload C.1 C.2.1 (zdaP zDL1 290 (by decide) rfl rfl) (lv_at hlv 0 rfl) ?_
    refine lv_iconst C.1 C.2.1 (zdaP zDL1 292 (by decide) rfl rfl) rfl ?_
    refine lv_iadd C.1 C.2.1 (zdaP zDL1 293 (by decide) rfl rfl) ?_
    refine va_sld C.1 C.2.1 hX hbl hbA hv.2.2.2.1 (vp_in_iff.mpr ⟨by rw [show Int32.ofInt 1 = Int32.ofInt ((1 : Nat) : Int) by decide, zsc1 hi (by decide)]; omega, by rw [show Int32.ofInt 1 = Int32.ofInt ((1 : Nat) : Int) by decide, zsc1 hi (by decide)]; omega⟩) (zdaP zDL1 294 (by decide) rfl rfl) ?_
    refine zV_callV C (zr_end (x := xs (Int32.ofNat i + Int32.ofInt 1).toNatClampNeg) ((hfo 94 8 (by decide)).trans hy2) hn8) rfl rfl (by decide) (by decide) (show vwCl[8]? = some (RX8, TX8, 51) from rfl) zw1333 zw1330 zw1331 zw1332 zw16 (n := 1) (by decide +kernel) (zdaP zDL1 295 (by decide) rfl rfl) rfl zvk94 (show 94 < 126 by decide) hv hlv.1 (by show 0 ≤ 8; decide) (by show 0 + K ≤ 601024; omega) (by show 0 + S ≤ 7293034; omega) (fun v f9 g9 ws H locs hp hv => ?_)
    obtain ⟨⟨h2, rfl, k1⟩ | ⟨h2, rfl, k1⟩, k3, rfl⟩ := hp
    · exact absurd h1 h2
    · refine lv_pop C.1 C.2.1 (zdaP zDL1 298 (by decide) rfl rfl) rfl ?_
      refine lv_goto C.1 C.2.1 (zdaP zDL1 299 (by decide) rfl rfl) (tgt := 1436) (by decide) ?_
      refine lv_iinc C.1 C.2.1 (zdaP zDL5 1436 (by decide) rfl rfl) hlv (k := 0) rfl rfl (by decide) (lv' := [(4, .int ((Int32.ofNat i) + Int32.ofInt 5)), (0, .ref o.1), (1, .ref (bb 0)), (2, .ref (bb 94)), (3, .ref (bb 125))]) rfl (fun ls hlv => ?_)
      rw [zinc5 hi] at hlv
      refine lv_goto C.1 C.2.1 (zdaP zDL5 1439 (by decide) rfl rfl) (tgt := 23) (by decide) ?_
      refine zcl9 (by omega) hn hlv hv ?_
      intro q hq
      unfold zyT3 at hq
      simp only [List.mem_cons, List.not_mem_nil, or_false] at hq
      rcases hq with rfl | rfl | rfl | rfl
      · exact zjp_of hv zvk1 (by decide) rfl zvk94 (by decide) rfl ((k3 1 1 (by decide)).trans hf1) (k1)
      · exact zjT_of hv (hT)
      · exact zjp_of hv zvk3 (by decide) rfl zvk94 (by decide) rfl ((k3 3 6 (by decide)).trans ((hfo 3 6 (by decide)).trans hM1)) ((k3 94 3 (by decide)).trans ((hfo 94 3 (by decide)).trans hM2))
      · exact zjp_of hv zvk0 (by decide) rfl zvk94 (by decide) rfl (((k3 0 13 (by decide)).trans (hfo 0 13 (by decide))).trans hE0a) (((k3 94 45 (by decide)).trans (hfo 94 45 (by decide))).trans hE0b)
set_option maxHeartbeats 8000000 in
theorem zsp_riders (E : zEnv tys) (C : zCx p room_1 s m #[Value.ref b] meth c0 D vwCl tys z (zXX o z) zTs RL cL_law 8 nm) (hX : va_X o.1 L xs s s.heap) (hbl : o.1 < s.heap.size) (hbA : ¬ zA z o.1) (hL : L ≤ 2560) {b1 b2 : zI} : zSpec p l e s m b below meth c0 D tys o z L xs zyI zyT3 (.ofNat 2, .ofNat 2) b1 b2 := by
  intro i K S g ls H locs ws hg h5 hi hK hS hj hm1 hm2 vst S0 hR hn
  obtain ⟨⟨xj, rfl, hxj⟩, hlv, hv⟩ := zop9 hg S0
  obtain ⟨x1, hy1, hy2⟩ := zjp_to hv (hR (zjp (1, 1, 94, 8)) (by unfold zyT3; simp))
  obtain ⟨x3, hM1, hM2⟩ := zjp_to hv (hR (zjp (3, 6, 94, 3)) (by unfold zyT3; simp))
  obtain ⟨-, -, hT⟩ := hR zjT (by unfold zyT3; simp)
  obtain ⟨z0, hE0a, hE0b⟩ := zjp_to hv (hR (zjp (0, 13, 94, 45)) (by unfold zyT3; simp))
  obtain ⟨y1, e1, r1⟩ := zV_int hv zvk94 (show 94 < 126 by decide) (j := 8) rfl
  obtain ⟨y3, e3, r3⟩ := zV_int hv zvk94 (show 94 < 126 by decide) (j := 3) rfl
  rw [hy2] at e1
  rw [hM2] at e3
  cases e1
  cases e3
  obtain ⟨n, rfl, hn8⟩ := zofI r1 (by decide)
  obtain ⟨c, rfl, hc8⟩ := zofI r3 (by decide)
  have hn8 : n ≤ 80 := by
    have q : (n : Int) ≤ 80 := hn8
    omega
  have hc8 : c ≤ 8 := by
    have q : (c : Int) ≤ 8 := hc8
    omega
  generalize hfe : zwV ws = f at *
  generalize hge : zwA ws = g0 at *
  generalize hbe : zwB ws = bb at *
  have hxj2 : xj.toInt = 2 := by
    obtain ⟨q1, q2⟩ := hxj
    have q1 : (2 : Int) ≤ xj.toInt := q1
    have q2 : xj.toInt ≤ (2 : Int) := q2
    omega
  refine lv_tableIn C.1 C.2.1 (zdaP zDL0 39 (by decide) rfl rfl) (by rw [hxj2]; decide) (by rw [hxj2]; decide) (off := 263) (by rw [hxj2]; rfl) (tgt := 302) (by decide) ?_
  refine lv_aload_n C.1 C.2.1 (zdaP zDL1 302 (by decide) rfl rfl) rfl (lv_at hlv 2 rfl) ?_
  refine zV_callV C (zc_riders E hM1 hy1 hc8 hn8) rfl rfl (by decide) (by decide) (show vwCl[7]? = some (RX7, TX7, 16) from rfl) zw491 zw488 zw489 zw490 zw1 (n := 0) (by decide +kernel) (zdaP zDL1 303 (by decide) rfl rfl) rfl zvk0 (show 0 < 126 by decide) hv hlv.1 (by show 0 ≤ 8; decide) (by show 0 + K ≤ 601024; omega) (by show 0 + S ≤ 7293034; omega) (fun v f9 g9 ws H locs hp hv => ?_)
  obtain ⟨ans, c', rfl, p1, p2, hfr, p5, p6, hA⟩ := hp
  refine lv_pop C.1 C.2.1 (zdaP zDL1 306 (by decide) rfl rfl) rfl ?_
  refine lv_aload_n C.1 C.2.1 (zdaP zDL1 307 (by decide) rfl rfl) rfl (lv_at hlv 3 rfl) ?_
  refine zV_callV C (zr_riders (c := c) (n := n) ((hfr 94 3 (by decide) (by decide) (by decide) (by decide) (by decide)).trans hM2) ((hfr 94 8 (by decide) (by decide) (by decide) (by decide) (by decide)).trans hy2) hc8 hn8) rfl rfl (by decide) (by decide) (show vwCl[8]? = some (RX8, TX8, 51) from rfl) zw1340 zw1337 zw1338 zw1339 zw16 (n := 0) (by decide +kernel) (zdaP zDL1 308 (by decide) rfl rfl) rfl zvk94 (show 94 < 126 by decide) hv hlv.1 (by show 0 ≤ 8; decide) (by show 0 + K ≤ 601024; omega) (by show 0 + S ≤ 7293034; omega) (fun v f9 g9 ws H locs hp hv => ?_)
  obtain ⟨ans2, c2, rfl, q1, q2, q3, q4, hA2⟩ := hp
  rw [p6] at hA2
  obtain ⟨rfl, rfl⟩ := zAn_one (zAn_cg hT hn8 hA) hA2
  refine lv_pop C.1 C.2.1 (zdaP zDL1 311 (by decide) rfl rfl) rfl ?_
  refine lv_goto C.1 C.2.1 (zdaP zDL1 312 (by decide) rfl rfl) (tgt := 1436) (by decide) ?_
  refine lv_iinc C.1 C.2.1 (zdaP zDL5 1436 (by decide) rfl rfl) hlv (k := 0) rfl rfl (by decide) (lv' := [(4, .int ((Int32.ofNat i) + Int32.ofInt 5)), (0, .ref o.1), (1, .ref (bb 0)), (2, .ref (bb 94)), (3, .ref (bb 125))]) rfl (fun ls hlv => ?_)
  rw [zinc5 hi] at hlv
  refine lv_goto C.1 C.2.1 (zdaP zDL5 1439 (by decide) rfl rfl) (tgt := 23) (by decide) ?_
  refine zcl9 (by omega) hn hlv hv ?_
  intro q hq
  unfold zyT3 at hq
  simp only [List.mem_cons, List.not_mem_nil, or_false] at hq
  rcases hq with rfl | rfl | rfl | rfl
  · exact zjp_of hv zvk1 (by decide) rfl zvk94 (by decide) rfl ((q3 1 1 (by decide)).trans p2) (q2)
  · exact zjT_of hv (by rw [q4 2 (by decide) (by decide) (by decide) (by decide) (by decide), q4 99 (by decide) (by decide) (by decide) (by decide) (by decide), p5, p6]; exact hT)
  · exact zjp_of hv zvk3 (by decide) rfl zvk94 (by decide) rfl ((q3 3 6 (by decide)).trans p1) (q1)
  · exact zjp_of hv zvk0 (by decide) rfl zvk94 (by decide) rfl (((q3 0 13 (by decide)).trans (hfr 0 13 (by decide) (by decide) (by decide) (by decide) (by decide))).trans hE0a) (((q3 94 45 (by decide)).trans (hfr 94 45 (by decide) (by decide) (by decide) (by decide) (by decide))).trans hE0b)
end ZRND
