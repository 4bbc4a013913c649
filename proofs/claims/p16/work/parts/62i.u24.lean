/-! THE EASIEST ROTA of both, under what is kept -/
theorem yl_sm : ∀ k : Nat, k < 64 → ((Int64.ofNat k).toBitVec.smod 64).toNat = k := by decide +kernel
theorem yl_shr {v : Int64} {k : Nat} (hk : k < 64) : (v >>> Int64.ofNat k).toInt = v.toInt / ((2 ^ k : Nat) : Int) := by
  show (v.toBitVec.sshiftRight' ((Int64.ofNat k).toBitVec.smod 64)).toInt = v.toBitVec.toInt / _
  rw [BitVec.toInt_sshiftRight', Int.shiftRight_eq_div_pow, yl_sm k hk]
theorem yl_ofNat {x : Int64} (h : 0 ≤ x.toInt) : x = Int64.ofNat x.toInt.toNat := by
  have e : ((x.toInt.toNat : Nat) : Int) = x.toInt := Int.toNat_of_nonneg h
  have e2 : Int64.ofInt ((x.toInt.toNat : Nat) : Int) = Int64.ofNat x.toInt.toNat := Int64.ofInt_eq_ofNat
  rw [e] at e2
  exact (Int64.ofInt_toInt x).symm.trans e2
theorem yl_32 {x : Int64} (h : 0 ≤ x.toInt) : x.toInt32 = Int32.ofNat x.toInt.toNat := (congrArg Int64.toInt32 (yl_ofNat h)).trans Int64.toInt32_ofNat'
theorem yd_rin_k : ∀ h : Nat, h < 8 → ((((3 : Int32) * ((7 : Int32) - Int32.ofNat h))).toInt64 &&& 63) = Int64.ofNat (3 * (7 - h)) := by decide +kernel
def yd_dg (N : Int) (h : Nat) : Nat := (N / ((2 ^ (3 * (7 - h)) : Nat) : Int)).toNat % 8
theorem yd_rin {d : Nat} {v : Int64} {h : Nat} {S : xq_S} (hv : 0 ≤ v.toInt) (hh : h < 8) : xq_D xqP (d + 1) 78 [.long v, .int (Int32.ofNat h)] S = some (some (.int (Int32.ofNat (yd_dg v.toInt h))), S) := by
  rw [qX4_riderIn_eq, yd_rin_k h hh]
  have hx := yl_shr (v := v) (k := 3 * (7 - h)) (by omega)
  generalize v >>> Int64.ofNat (3 * (7 - h)) = x at hx
  have h0 : 0 ≤ x.toInt := by
    rw [hx]
    exact Int.ediv_nonneg hv (Int.natCast_nonneg _)
  rw [yl_32 h0, show (7 : Int32) = Int32.ofNat 7 from rfl, yd_and, show x.toInt.toNat &&& 7 = x.toInt.toNat % 8 from Nat.and_two_pow_sub_one_eq_mod _ 3, hx]
  rfl
theorem yd_pof {d : Nat} {v : Int64} {S : xq_S} (hv : 0 ≤ v.toInt) : xq_D xqP (d + 1) 77 [.long v] S = some (some (.int (Int32.ofNat (v.toInt / 16777216).toNat)), S) := by
  rw [qX4_priceOf_eq, show (((24 : Int32)).toInt64 &&& 63) = Int64.ofNat 24 from by decide]
  have hx := yl_shr (v := v) (k := 24) (by omega)
  generalize v >>> Int64.ofNat 24 = x at hx
  have h0 : 0 ≤ x.toInt := by
    rw [hx]
    exact Int.ediv_nonneg hv (Int.natCast_nonneg _)
  rw [yl_32 h0, hx]
  rfl
theorem yd_dgN {a : Nat → Nat} {N b : Int} (ha : ∀ i, i < 8 → a i ≤ 7) (hb : 0 ≤ b) (hN : N = b * 16777216 + yd_N a) {h : Nat} (hh : h < 8) : yd_dg N h = a h := by
  have a0 := ha 0 (by omega)
  have a1 := ha 1 (by omega)
  have a2 := ha 2 (by omega)
  have a3 := ha 3 (by omega)
  have a4 := ha 4 (by omega)
  have a5 := ha 5 (by omega)
  have a6 := ha 6 (by omega)
  have a7 := ha 7 (by omega)
  unfold yd_N at hN
  unfold yd_dg
  rcases (show h = 0 ∨ h = 1 ∨ h = 2 ∨ h = 3 ∨ h = 4 ∨ h = 5 ∨ h = 6 ∨ h = 7 by omega) with rfl | rfl | rfl | rfl | rfl | rfl | rfl | rfl
  · show (N / ((2097152 : Nat) : Int)).toNat % 8 = _
    omega
  · show (N / ((262144 : Nat) : Int)).toNat % 8 = _
    omega
  · show (N / ((32768 : Nat) : Int)).toNat % 8 = _
    omega
  · show (N / ((4096 : Nat) : Int)).toNat % 8 = _
    omega
  · show (N / ((512 : Nat) : Int)).toNat % 8 = _
    omega
  · show (N / ((64 : Nat) : Int)).toNat % 8 = _
    omega
  · show (N / ((8 : Nat) : Int)).toNat % 8 = _
    omega
  · show (N / ((1 : Nat) : Int)).toNat % 8 = _
    omega
theorem yl_no {x : Int64} : (lg_cmp x (1152921504606846976 : Int64)) < 0 ↔ x.toInt < yd_NO := by
  have e : (1152921504606846976 : Int64).toInt = 1152921504606846976 := by decide
  have e0 : (0 : Int32).toInt = 0 := by decide
  rw [xt_lt, e0]
  unfold yd_NO
  rcases yl_cmp (x := x) (y := (1152921504606846976 : Int64)) with ⟨h1, h2⟩ | ⟨h1, h2⟩ | ⟨h1, h2⟩ <;> rw [e] at h2 <;> omega
theorem yi_ofNat {x : Int32} (h : 0 ≤ x.toInt) (h2 : x.toInt ≤ 1000000000) : x = Int32.ofNat x.toInt.toNat := by
  rw [xt_eq, xt_nat (by omega)]
  omega
theorem yand2 {a b : Bool} (h : (a && b) = true) : a = true ∧ b = true := by
  rw [Bool.and_eq_true] at h
  exact h
/-- all slots of what is kept -/
theorem yT_fr {o a : List (Nat × Nat)} {p : Nat → Nat → Bool} {q : Nat → Bool} (hpq : ∀ k j, q k = true → p k j = true) (h : (o.all (fun x => p x.1 x.2) && a.all (fun x => q x.1)) = true) {k j : Nat} (hk : yT o a k j) : p k j = true := by
  rw [Bool.and_eq_true, List.all_eq_true, List.all_eq_true] at h
  rcases hk with hk | ⟨n, hk, _⟩
  · exact h.1 _ hk
  · exact hpq _ _ (h.2 _ hk)
noncomputable def ypF (p : Nat → Nat → Bool) (q : Nat → Bool) : Bool := (oP9.all (fun x => p x.1 x.2) && aP9.all (fun x => q x.1)) && ((oH9.all (fun x => p x.1 x.2) && aH9.all (fun x => q x.1)) && ((oL9.all (fun x => p x.1 x.2) && aL9.all (fun x => q x.1)) && ((oN9.all (fun x => p x.1 x.2) && aN9.all (fun x => q x.1)) && ((oA9.all (fun x => p x.1 x.2) && aA9.all (fun x => q x.1)) && (oK9.all (fun x => p x.1 x.2) && aK9.all (fun x => q x.1))))))
theorem yF_p {p : Nat → Nat → Bool} {q : Nat → Bool} {I I' : Nat → Nat → Int32} (hpq : ∀ k j, q k = true → p k j = true) (hc : ypF p q = true) (h : ∀ k j, xv k j = true → p k j = true → I' k j = I k j) (hF : yF I) : yF I' := by
  unfold ypF at hc
  obtain ⟨c1, hc⟩ := yand2 hc
  obtain ⟨c2, hc⟩ := yand2 hc
  obtain ⟨c3, hc⟩ := yand2 hc
  obtain ⟨c4, hc⟩ := yand2 hc
  obtain ⟨c5, c6⟩ := yand2 hc
  refine yF_T (fun k j g => ?_) hF
  rcases g with g | g | g | g | g | g
  · exact h k j (xt_xv xP9 g) (yT_fr hpq c1 g)
  · exact h k j (xt_xv xH9 g) (yT_fr hpq c2 g)
  · exact h k j (xt_xv xL9 g) (yT_fr hpq c3 g)
  · exact h k j (xt_xv xN9 g) (yT_fr hpq c4 g)
  · exact h k j (xt_xv xA9 g) (yT_fr hpq c5 g)
  · exact h k j (xt_xv xK9 g) (yT_fr hpq c6 g)
/-- more bounds -/
def yBG (I : Nat → Nat → Int32) : Prop := yBF I ∧ I 94 39 = 1000000000 ∧ ∀ i, i < 40 → yb I 103 i (-128) 127
set_option maxRecDepth 100000 in
theorem yBG_103 : zfor (fun i => match xz_b 103 i with
  | some q => zle (-128) q.1 && zle q.2 127
  | none => false) 40 = true := by decide +kernel
set_option maxRecDepth 100000 in
theorem yBG_of {I : Nat → Nat → Int32} (h : xbd I) : yBG I := by
  refine ⟨yBF_of h, ?_, fun i hi => yB_arr yBG_103 h hi⟩
  have h9 := h 94 39 (.ofNat 1000000000, .ofNat 1000000000) rfl
  obtain ⟨h1, h2⟩ := h9
  have e : (1000000000 : Int32).toInt = 1000000000 := by decide
  have h1 : (1000000000 : Int) ≤ (I 94 39).toInt := h1
  have h2 : (I 94 39).toInt ≤ (1000000000 : Int) := h2
  rw [xt_eq, e]
  omega
theorem yRm_B {B B' : (Nat → Nat → Int32) → Prop} {d1 m1 k1 d2 m2 k2 : Nat} {xs : List Int32} {cmp : Prop} {P : (Nat → Nat → Int32) → Prop} {I : Nat → Nat → Int32} (h : ∀ I, B' I → B I) (hr : yRm B d1 m1 k1 d2 m2 k2 xs cmp P I) : yRm B' d1 m1 k1 d2 m2 k2 xs cmp P I := by
  intro J R hR
  obtain ⟨a, I1, J1, R1, h1, h2⟩ := hr J R hR
  refine ⟨a, I1, J1, R1, h1, fun I1' he hf hB J' R' hR' => ?_⟩
  obtain ⟨b, I2, J2, R2, h3, h4, h5⟩ := h2 I1' he hf (h _ hB) J' R' hR'
  exact ⟨b, I2, J2, R2, h3, h4, fun I2' he2 hf2 hB2 => h5 I2' he2 hf2 (h _ hB2)⟩
section YU24
variable {d c n q n0 nx sz full : Nat} {I I' I1 I2 : Nat → Nat → Int32} {J : Nat → Nat → Int64} {R : Nat → Nat → Nat} {val : (Nat → Int32) → Int32} {wo : Int32} {Hd : Nat → Nat → Int32}
noncomputable def yHD (val : (Nat → Int32) → Int32) (I : Nat → Nat → Int32) : Nat → Nat → Int32 := yHv val (I 98) (I 96) (I 97) (I 95)
theorem yHD_r {r h : Nat} : 0 ≤ (yHD val I r h).toInt ∧ (yHD val I r h).toInt ≤ 999 := yHv_r
def yCn (I : Nat → Nat → Int32) (r : Nat) : Nat := (I 98 r).toInt.toNat
theorem yE_in (hV : yV I c n) (l1 : I 10 4 = Int32.ofNat q) : yd_in I n c q (yv_c (I 11) q) (I 17) (I 6) (I 5) (I 4) (I 15 3) := ⟨hV.2.2.2.1, hV.1, l1, rfl, rfl, fun r _ => ⟨rfl, rfl, rfl, rfl⟩⟩
theorem yE_Hc {C : List Int32} {T : Nat → Int32} (hV : yV I c n) (hL : yLv C T n0 val) : yHd C (I 17) (I 6) (I 5) (I 4) (I 15 3) c (yHD val I) := by
  obtain ⟨v1, v2, v3, v4, v5, v6, v7, v8, v9, v10, v11⟩ := hV
  refine yHv_c hL (fun r hr => ?_) ?_
  · obtain ⟨a1, a2, a3⟩ := v9 r hr
    exact ⟨by rw [v10 (8 + r) (by omega), yq_s_2 (by omega)], a3, a2, a1⟩
  · rw [v10 24 (by decide), yq_s_24]
theorem yE_cap (hV : yV I c n) : yd_cap c (I 5) = yd_cap c (I 96) := by
  obtain ⟨v1, v2, v3, v4, v5, v6, v7, v8, v9, v10, v11⟩ := hV
  funext r
  unfold yd_cap
  by_cases h : r < c
  · rw [if_pos h, if_pos h, (v9 r h).2.1]
  · rw [if_neg h, if_neg h]
theorem yE_cn (hB : yBF I) (hV : yV I c n) : ∀ r, r < c → I 4 r = Int32.ofNat (yCn I r) := fun r hr => by
  obtain ⟨v1, v2, v3, v4, v5, v6, v7, v8, v9, v10, v11⟩ := hV
  obtain ⟨h1, h2⟩ := (hB.2.2.2.2 r (by omega)).1
  unfold yCn
  rw [← (v9 r hr).1]
  exact yi_ofNat h1 (by omega)
/-- whose seats they are -/
def yMC (I : Nat → Nat → Int32) (n c : Nat) (wo : Int32) : Nat → Nat := yd_may n c wo (I 15 2) (yCn I)
def yMR (I : Nat → Nat → Int32) (n : Nat) (wo : Int32) : Nat → Nat := yd_mayR n wo (fun r => I 95 (16 + r)) (yCn I)
theorem yE_may (hV : yV I c n) {r : Nat} (hr : r < c) : yMC I n c wo r = yMR I n wo r := by
  obtain ⟨v1, v2, v3, v4, v5, v6, v7, v8, v9, v10, v11⟩ := hV
  have e : I 95 (16 + r) = yIl (I 15 2) r := by rw [v10 (16 + r) (by omega), yq_s_3 (by omega)]
  unfold yMC yMR yd_may yd_mayR
  by_cases g : ((I 15 2 >>> (Int32.ofNat r &&& 31)) &&& (1 : Int32)) = (1 : Int32)
  · have e2 : I 95 (16 + r) = 1 := e.trans (if_pos g)
    rw [if_neg (fun z => z.2.2 g), if_neg (fun z => z.1 e2)]
  · have e2 : ¬ I 95 (16 + r) = 1 := by rw [e, show yIl (I 15 2) r = 0 from if_neg g]; decide
    by_cases w : Int32.ofNat r = wo
    · rw [if_neg (fun z => z.2.1 w), if_neg (fun z => z.2 w)]
    · rw [if_pos ⟨hr, w, g⟩, if_pos ⟨e2, w⟩]
theorem yE_may0 {r : Nat} (hr : c ≤ r) : yMC I n c wo r = 0 := by
  unfold yMC yd_may
  rw [if_neg (fun z => by have := z.1; omega)]
/-- HELD rotas of the class with their prices; of the reference -/
def yOKC (I : Nat → Nat → Int32) (n c : Nat) (wo : Int32) (val : (Nat → Int32) → Int32) (o : Nat → Nat) : Prop := yd_Pt (yd_okc (yMC I n c wo) (yd_cap c (I 96)) (yd_NO - 1) (fun _ => 0) (yd_f n c (yHD val I))) 8 (2 ^ n - 1) o
def yOKR (I : Nat → Nat → Int32) (n c : Nat) (wo : Int32) (o : Nat → Nat) : Prop := yd_A c (2 ^ n - 1) (yMR I n wo) (fun _ => 0) (yd_cap c (I 96)) o
theorem yE_c {T : Nat → Int32} (hB : yBF I) (hV : yV I c n) (hq : q ≤ 40) (hR : R 3 9 = 10) (l1 : I 10 4 = Int32.ofNat q) (hL : yLv (yv_c (I 11) q) T n0 val) : ∃ v I' J', xq_D xqP (d + 7) 114 [.ref 0, .int wo] (I, J, R) = some (some (.long v), I', J', R) ∧ (∀ k j, ¬ k = 7 → ¬ k = 13 → ¬ (64 ≤ k ∧ k ≤ 68) → I' k j = I k j) ∧ (0 ≤ v.toInt ∧ v.toInt ≤ yd_NO) ∧ (v.toInt < yd_NO → ∃ o, yOKC I n c wo val o ∧ v.toInt = yd_Ws (yd_wc (fun _ => 0) (yd_f n c (yHD val I))) 8 o) ∧ ∀ o, yOKC I n c wo val o → v.toInt ≤ yd_Ws (yd_wc (fun _ => 0) (yd_f n c (yHD val I))) 8 o := by
  have h := yd_easiest (d := d) (J := J) (R := R) (wo := wo) (cn := yCn I) (by have := hV.2.2.2.2.2.2.1; omega) hq hV.2.2.1 hR (yE_in hV l1) (yE_Hc hV hL) rfl (yE_cn hB hV) (fun r hr => (hB.2.2.2.2 r (by have := hV.2.2.1; omega)).2.1.1)
  rw [yE_cap hV] at h
  exact h
theorem yE_cx {T : Nat → Int32} {I0 : Nat → Nat → Int32} (hB : yBF I) (hV : yV I c n) (hq : q ≤ 40) (hR : R 3 9 = 10) (l1 : I 10 4 = Int32.ofNat q) (hL : yLv (yv_c (I 11) q) T n0 val) (hf : ∀ k j, ¬ k = 7 → ¬ k = 13 → ¬ (64 ≤ k ∧ k ≤ 68) → I0 k j = I k j) : ∃ v I' J', xq_D xqP (d + 7) 114 [.ref 0, .int wo] (I0, J, R) = some (some (.long v), I', J', R) ∧ (∀ k j, ¬ k = 7 → ¬ k = 13 → ¬ (64 ≤ k ∧ k ≤ 68) → I' k j = I0 k j) ∧ (0 ≤ v.toInt ∧ v.toInt ≤ yd_NO) ∧ (v.toInt < yd_NO → ∃ o, yOKC I n c wo val o ∧ v.toInt = yd_Ws (yd_wc (fun _ => 0) (yd_f n c (yHD val I))) 8 o) ∧ ∀ o, yOKC I n c wo val o → v.toInt ≤ yd_Ws (yd_wc (fun _ => 0) (yd_f n c (yHD val I))) 8 o := by
  have h := yd_easiest (d := d) (J := J) (R := R) (I := I0) (wo := wo) (cn := yCn I) (by have := hV.2.2.2.2.2.2.1; omega) hq hV.2.2.1 hR (yd_in_fr hf (yE_in hV l1)) (yE_Hc hV hL) (hf 15 2 (by decide) (by decide) (by decide)) (yE_cn hB hV) (fun r hr => (hB.2.2.2.2 r (by have := hV.2.2.1; omega)).2.1.1)
  rw [yE_cap hV] at h
  exact h
theorem yd_cost0 {I : Nat → Nat → Int32} {r own : Nat} (hr : r < 8) (ho : own < 256) (h115 : ∀ h, h < 8 → I 115 (8 * r + h) = Hd r h) (hb : ∀ h, h < 8 → 0 ≤ (Hd r h).toInt ∧ (Hd r h).toInt ≤ 999) : ∃ x, xq_D xqP (d + 3) 199 [.ref 94, .int 0, .int (Int32.ofNat r), .int (Int32.ofNat own)] (I, J, R) = some (some (.int x), I, J, R) ∧ x.toInt = yd_wh Hd r own ∧ 0 ≤ yd_wh Hd r own ∧ yd_wh Hd r own ≤ 1000000 := by
  obtain ⟨v, h1, h2⟩ := yd_hb (d := d) (I := I) (J := J) (R := R) hr ho (fun h hh => by rw [h115 h hh]; exact hb h hh)
  have e : yd_S (fun h => (I 115 (8 * r + h)).toInt) own 8 = yd_wh Hd r own := yd_S_fcg (fun h hh => by show (I 115 (8 * r + h)).toInt = (Hd r h).toInt; rw [h115 h hh])
  have b := yd_S_r (s := own) (n := 8) (M := 999) (f := fun h => (Hd r h).toInt) (fun h hh => hb h hh)
  refine ⟨v, ?_, h2.trans e, b.1, ?_⟩
  · rw [qX8_costOf_eq, if_neg (fun z => z rfl), h1, xb_I1]
  · have := b.2
    show yd_S (fun h => (Hd r h).toInt) own 8 ≤ _
    omega
/-- the reference's seats are laid -/
theorem yE_lay {C : List Int32} (hB : yBG I) (hV : yV I c n) (l3 : I 94 20 = Int32.ofNat n0) (l4 : n0 ≤ 40) (hL : yLv C (yk_t I 102 n0 40) n0 val) (gg : ∀ k j, xv k j = true → 94 ≤ k → ¬ k = 104 → ¬ (111 ≤ k ∧ k ≤ 118) → ¬ (k = 94 ∧ (j = 11 ∨ j = 13 ∨ j = 14 ∨ j = 15 ∨ j = 16)) → I1 k j = I k j) (hR : R 94 18 = 102) : ∃ I' R', xq_D xqP (d + 173) 250 [.ref 94, .int wo] (I1, J, R) = some (none, I', J, R') ∧ yd_frR I1 I' ∧ (∀ k j, ¬ (k = 94 ∧ j = 12) → R' k j = R k j) ∧ I' 94 1 = Int32.ofNat n ∧ I' 94 3 = Int32.ofNat c ∧ I' 94 39 = 1000000000 ∧ (∀ r, r < c → (I' 96 r).toInt = yd_cap c (I 96) r ∧ ∀ h, h < 8 → I' 115 (8 * r + h) = yHD val I r h) ∧ yd_ms c (2 ^ n - 1) I' (yMR I n wo) (fun _ => 0) := by
  obtain ⟨v1, v2, v3, v4, v5, v6, v7, v8, v9, v10, v11⟩ := id hV
  have x102 : ∀ i, i < 40 → xv 102 i = true := fun i hi => xt_xv xL9 (Or.inr ⟨40, by decide, hi⟩)
  have x98 : ∀ i, i < 8 → xv 98 i = true ∧ xv 96 i = true ∧ xv 97 i = true := fun i hi => ⟨xt_xv xP9 (Or.inr ⟨8, by decide, hi⟩), xt_xv xP9 (Or.inr ⟨8, by decide, hi⟩), xt_xv xP9 (Or.inr ⟨8, by decide, hi⟩)⟩
  have e0 : (0 : Int32).toInt = 0 := by decide
  have h21 : I 94 21 = 0 := by
    obtain ⟨h1, h2⟩ := hB.1.1.2.2.2.2.2.2.1
    rw [xt_eq, e0]
    omega
  have g : ∀ k j, xv k j = true → (94 ≤ k ∧ k < 104) → ¬ (k = 94 ∧ (j = 11 ∨ j = 13 ∨ j = 14 ∨ j = 15 ∨ j = 16)) → I1 k j = I k j := fun k j h1 h2 h3 => gg k j h1 h2.1 (by omega) (by omega) h3
  have g95 : ∀ i, i < 27 → I1 95 i = I 95 i := fun i hi => g 95 i (y95_xv hi) (by decide) (by omega)
  have g94 : ∀ j, xv 94 j = true → ¬ (j = 11 ∨ j = 13 ∨ j = 14 ∨ j = 15 ∨ j = 16) → I1 94 j = I 94 j := fun j h1 h2 => g 94 j h1 (by decide) (by omega)
  have hT0 : yk_t I1 102 n0 40 = yk_t I 102 n0 40 := by
    funext p
    unfold yk_t
    by_cases hp : p < n0 ∧ p < 40
    · rw [if_pos hp, if_pos hp, g 102 p (x102 p hp.2) (by decide) (by omega)]
    · rw [if_neg hp, if_neg hp]
  have hin : yd_inR I1 R n c n0 (yk_t I 102 n0 40) (fun r => I 95 (8 + r)) (I 97) (I 96) (I 98) (fun r => I 95 (16 + r)) (I 95 24) := ⟨⟨(g94 1 rfl (by decide)).trans v5, (g94 3 rfl (by decide)).trans v2, (g94 20 rfl (by decide)).trans l3, (g94 21 rfl (by decide)).trans h21, hR⟩, fun i hi => by rw [g 102 i (x102 i hi) (by decide) (by omega)]; exact hB.1.1.2.2.2.2.2.2.2.2.2 i hi, hT0, g95 24 (by decide), fun r hr => ⟨g95 (8 + r) (by omega), g 97 r (x98 r hr).2.2 (by decide) (by omega), g 96 r (x98 r hr).2.1 (by decide) (by omega), g 98 r (x98 r hr).1 (by decide) (by omega), g95 (16 + r) (by omega)⟩⟩
  have hHd : yr_Hd (yk_t I 102 n0 40) n0 (fun r => I 95 (8 + r)) (I 97) (I 96) (I 98) (I 95 24) (yHD val I) := yHv_rr hL (fun r hr => rfl) rfl
  obtain ⟨I', R', k0, k1, k2, k3, -⟩ := yd_layl (d := d) (J := J) (wo := wo) (cn := yCn I) v7 v3 l4 hHd (fun r hr => by rw [← (v9 r hr).1]; exact yE_cn hB.1 hV r hr) c 0 I1 R (Nat.zero_add _) hin
  have f94 : ∀ j, xv 94 j = true → ¬ j = 11 → ¬ (j = 13 ∨ j = 14 ∨ j = 15 ∨ j = 16) → I' 94 j = I 94 j := fun j h1 h2 h3 => (k1 94 j (by decide) (by decide) (by omega)).trans (g94 j h1 (by omega))
  have hff := (yd_full n (by omega)).2
  refine ⟨I', R', by rw [qX8_layMay_eq]; exact k0, k1, k2, (f94 1 rfl (by decide) (by decide)).trans v5, (f94 3 rfl (by decide) (by decide)).trans v2, (f94 39 rfl (by decide) (by decide)).trans hB.2.1, fun r hr => ⟨?_, fun h hh => (k3 r (Nat.zero_le _) hr).2.2 h hh⟩, fun r hr => ⟨(k3 r (Nat.zero_le _) hr).1, ?_, (k3 r (Nat.zero_le _) hr).2.1, by show 0 < 256; decide⟩⟩
  · rw [k1 96 r (by decide) (by decide) (by omega), g 96 r (x98 r (by omega)).2.1 (by decide) (by omega)]
    unfold yd_cap
    rw [if_pos hr]
  · unfold yMR yd_mayR
    split
    · rw [Nat.and_assoc, Nat.and_self]
    · exact Nat.zero_and _
/-- what stays while rows are sought, by HARD -/
theorem yE_bs {Ib : Nat → Nat → Int32} (hc : c ≤ 8) (h1 : Ib 94 1 = Int32.ofNat n) (h3 : Ib 94 3 = Int32.ofNat c) (h39 : Ib 94 39 = 1000000000) (hr : ∀ r, r < c → (Ib 96 r).toInt = yd_cap c (I 96) r ∧ ∀ h, h < 8 → Ib 115 (8 * r + h) = yHD val I r h) : yd_bs d n c Ib J R 0 (yd_cap c (I 96)) (yd_wh (yHD val I)) := by
  refine ⟨h1, h3, h39, fun r hrc => ⟨(hr r hrc).1, fun h hh => by rw [(hr r hrc).2 h hh]; exact yHD_r⟩, fun I2 hI2 r own hrc ho => ?_⟩
  exact yd_cost0 (by omega) ho (fun h hh => by rw [hI2 115 _ (by decide) (by decide) (by decide)]; exact (hr r hrc).2 h hh) (fun h hh => yHD_r)
/-- easiestBut() of the reference -/
theorem yE_r {C : List Int32} (hB : yBG I) (hV : yV I c n) (l3 : I 94 20 = Int32.ofNat n0) (l4 : n0 ≤ 40) (hL : yLv C (yk_t I 102 n0 40) n0 val) (gg : ∀ k j, xv k j = true → 94 ≤ k → ¬ k = 104 → ¬ (111 ≤ k ∧ k ≤ 118) → ¬ (k = 94 ∧ (j = 11 ∨ j = 13 ∨ j = 14 ∨ j = 15 ∨ j = 16)) → I1 k j = I k j) (hR : R 94 18 = 102) : ∃ b I' R', xq_D xqP (d + 174) 204 [.ref 94, .int wo] (I1, J, R) = some (some (.int b), I', J, R') ∧ yd_frR I1 I' ∧ (∀ k j, ¬ (k = 94 ∧ j = 12) → R' k j = R k j) ∧ (0 ≤ b.toInt ∧ b.toInt ≤ yd_FAR) ∧ (b.toInt < yd_FAR → ∃ o, yOKR I n c wo o ∧ b.toInt = yd_Sr (yd_wh (yHD val I)) c c o) ∧ (∀ o, yOKR I n c wo o → b.toInt ≤ yd_Sr (yd_wh (yHD val I)) c c o) ∧ (∀ d' J' R'', yd_bs d' n c I' J' R'' 0 (yd_cap c (I 96)) (yd_wh (yHD val I))) ∧ yd_ms c (2 ^ n - 1) I' (yMR I n wo) (fun _ => 0) ∧ ∀ r, r < c → ∀ h, h < 8 → I' 115 (8 * r + h) = yHD val I r h := by
  obtain ⟨I2, R2, k0, k1, k2, k3, k4, k5, k6, k7⟩ := yE_lay (d := d) (J := J) (wo := wo) hB hV l3 l4 hL gg hR
  obtain ⟨b, I3, s0, s1, s2, s3, s4⟩ := yd_sol (d := d + 169) (J := J) (R := R2) (v1 := 0) hV.2.2.2.2.2.2.1 hV.2.2.1 rfl (yE_bs hV.2.2.1 k3 k4 k5 k6) (fun _ _ _ _ _ => rfl) k7
  have s1' : ∀ k j, ¬ k = 116 → I3 k j = I2 k j := fun k j h => s1 k j h
  refine ⟨b, I3, R2, ?_, fun k j h1 h2 h3 => (s1' k j (by omega)).trans (k1 k j h1 h2 h3), k2, s2, s3, s4, fun d' J' R'' => yE_bs hV.2.2.1 ((s1' _ _ (by decide)).trans k3) ((s1' _ _ (by decide)).trans k4) ((s1' _ _ (by decide)).trans k5) (fun r hr => ⟨by rw [s1' _ _ (by decide)]; exact (k6 r hr).1, fun h hh => (s1' _ _ (by decide)).trans ((k6 r hr).2 h hh)⟩), fun r hr => ?_, fun r hr h hh => (s1' _ _ (by decide)).trans ((k6 r hr).2 h hh)⟩
  · have s0' : xq_D xqP (d + 173) 282 [.ref 94, .int 0] (I2, J, R2) = some (some (.int b), I3, J, R2) := s0
    rw [qX8_easiestBut_eq, k0, xb_V1, s0', xb_I1]
  · obtain ⟨a1, a2, a3, a4⟩ := k7 r hr
    exact ⟨(s1' _ _ (by decide)).trans a1, a2, (s1' _ _ (by decide)).trans a3, a4⟩
/-- layLine(HARD) of the reference, and what it says of the class's number -/
theorem yE_line {Ib : Nat → Nat → Int32} {b : Int32} (hn : n ≤ 8) (hc : c ≤ 8) (hbs : ∀ d' J' R'', yd_bs d' n c Ib J' R'' 0 (yd_cap c (I 96)) (yd_wh (yHD val I))) (hms : yd_ms c (2 ^ n - 1) Ib (yMR I n wo) (fun _ => 0)) (hb : b.toInt < yd_FAR) (h1 : ∃ o, yOKR I n c wo o ∧ b.toInt = yd_Sr (yd_wh (yHD val I)) c c o) (h2 : ∀ o, yOKR I n c wo o → b.toInt ≤ yd_Sr (yd_wh (yHD val I)) c c o) : ∃ I' ρ, xq_D xqP (d + 5) 249 [.ref 94, .int 0, .int b] (Ib, J, R) = some (none, I', J, R) ∧ yd_lb Ib I' ∧ (∀ i, i < n → I' 118 i = Int32.ofNat (ρ i)) ∧ yd_lex c (2 ^ n - 1) n 0 (yMR I n wo) (fun _ => 0) (yd_cap c (I 96)) (yd_wh (yHD val I)) b.toInt ρ := by
  obtain ⟨o, o1, o2⟩ := h1
  obtain ⟨I', ρ, l0, l1, l2, -, l3⟩ := yd_line (d := d) (J := J) (R := R) (v1 := 0) (v2 := b) (best := b.toInt) hn hc rfl (hbs d J R) rfl hb n 0 Ib (yMR I n wo) (fun _ => 0) (Nat.zero_add _) (fun _ _ _ _ _ => rfl) hms h2 ⟨o, o1, o2.symm⟩
  exact ⟨I', ρ, by rw [qX8_layLine_eq]; exact l0, l1, fun i hi => l2 i (Nat.zero_le _) hi, l3⟩
theorem yE_cmp (hV : yV I c n) {v : Int64} {b : Int32} (hv1 : v.toInt < yd_NO → ∃ o, yOKC I n c wo val o ∧ v.toInt = yd_Ws (yd_wc (fun _ => 0) (yd_f n c (yHD val I))) 8 o) (hv2 : ∀ o, yOKC I n c wo val o → v.toInt ≤ yd_Ws (yd_wc (fun _ => 0) (yd_f n c (yHD val I))) 8 o) (hb1 : b.toInt < yd_FAR → ∃ o, yOKR I n c wo o ∧ b.toInt = yd_Sr (yd_wh (yHD val I)) c c o) (hb2 : ∀ o, yOKR I n c wo o → b.toInt ≤ yd_Sr (yd_wh (yHD val I)) c c o) : (v.toInt < yd_NO ↔ b.toInt < yd_FAR) ∧ (b.toInt < yd_FAR → ∀ ρ, yd_lex c (2 ^ n - 1) n 0 (yMR I n wo) (fun _ => 0) (yd_cap c (I 96)) (yd_wh (yHD val I)) b.toInt ρ → v.toInt = b.toInt * 16777216 + yd_N (fun h => if h < n then ρ h else 0)) :=
  yd_cmp hV.2.2.2.2.2.2.1 hV.2.2.1 rfl (fun r h _ _ => yHD_r) (fun r hr => yE_may hV hr) (fun r h1 _ => yE_may0 h1) hv1 hv2 hb1 hb2
end YU24
