/-! HELD ROTAS: the class's least number is the reference's price and row -/
def yd_N (a : Nat → Nat) : Int := (a 0 : Int) * 2097152 + (a 1 : Int) * 262144 + (a 2 : Int) * 32768 + (a 3 : Int) * 4096 + (a 4 : Int) * 512 + (a 5 : Int) * 64 + (a 6 : Int) * 8 + (a 7 : Int)
def yd_wh (Hd : Nat → Nat → Int32) (r x : Nat) : Int := yd_S (fun h => (Hd r h).toInt) x 8
theorem yd_S_b {f g : Nat → Int} {s : Nat} : ∀ {n : Nat}, (∀ i, i < n → s.testBit i = true → f i = g i) → yd_S f s n = yd_S g s n
  | 0, _ => rfl
  | n + 1, h => by
    show yd_S f s n + _ = yd_S g s n + _
    rw [yd_S_b (n := n) (fun i hi => h i (by omega))]
    cases hb : s.testBit n with
    | true => rw [if_pos rfl, if_pos rfl, h n (by omega) hb]
    | false => rfl
theorem yd_w_S {f : Nat → Int} {s : Nat} : yd_w 0 f s = yd_S f s 8 := by
  unfold yd_w
  by_cases h : s = 0
  · rw [if_pos h, h, yd_S_0]
  · rw [if_neg h]
    omega
theorem yd_sb {n full s h : Nat} (hfull : full = 2 ^ n - 1) (hs : s &&& full = s) (hb : s.testBit h = true) : h < n := by
  have := yd_ss.mp hs h hb
  rw [hfull, Nat.testBit_two_pow_sub_one] at this
  simpa using this
/-- a row of an assignment -/
def yd_rw (n c : Nat) (o : Nat → Nat) (ρ : Nat → Nat) : Prop := ∀ h, h < n → ρ h < c ∧ (o (ρ h)).testBit h = true
theorem yd_rw_ex {n c full : Nat} {o : Nat → Nat} (hfull : full = 2 ^ n - 1) (hb : yd_Bw 0 c full o) : ∃ ρ, yd_rw n c o ρ := by
  have key : ∀ h, h < n → ∃ r, r < c ∧ (o r).testBit h = true := fun h hh => by
    have : full.testBit h = true := by
      rw [hfull, Nat.testBit_two_pow_sub_one]
      simpa using hh
    obtain ⟨r, -, h2, h3⟩ := (hb.1 h).mp this
    exact ⟨r, h2, h3⟩
  refine ⟨fun h => match Classical.propDecidable (h < n) with
    | .isTrue hh => Classical.choose (key h hh)
    | .isFalse _ => 0, fun h hh => ?_⟩
  dsimp only
  split
  · rename_i hh' _
    exact Classical.choose_spec (key h hh')
  · rename_i z _
    exact absurd hh z
section YDQ
variable {n c full : Nat} {Hd : Nat → Nat → Int32} {o ρ : Nat → Nat}
/-- what an assignment's number is -/
theorem yd_num (hn : n ≤ 8) (hc : c ≤ 8) (hfull : full = 2 ^ n - 1) (hB : yd_Bw 0 c full o) (h0 : ∀ r, c ≤ r → r < 8 → o r = 0) (hρ : yd_rw n c o ρ) : yd_Ws (yd_wc (fun _ => 0) (yd_f n c Hd)) 8 o = yd_Sr (yd_wh Hd) c c o * 16777216 + yd_N (fun h => if h < n then ρ h else 0) := by
  have hsub : ∀ r, r < c → o r &&& full = o r := fun r hr => yd_ss.mpr (fun i hi => (hB.1 i).mpr ⟨r, Nat.zero_le _, hr, hi⟩)
  rw [yd_Ws_T, yd_Sr_c, ← yd_T_mul, yd_T_ext (c := c) hc (fun r h1 h2 => by rw [h0 r h1 h2]; rfl)]
  have e1 : ∀ r, r < c → yd_wc (fun _ => 0) (yd_f n c Hd) r (o r) = yd_wh Hd r (o r) * 16777216 + yd_T (fun h => if (o r).testBit h = true then (r : Int) * 8 ^ (7 - h) else 0) 8 := fun r hr => by
    show yd_w 0 (yd_f n c Hd r) (o r) = _
    rw [yd_w_S]
    have a1 : yd_S (yd_f n c Hd r) (o r) 8 = yd_S (fun h => (Hd r h).toInt * 16777216 + (r : Int) * 8 ^ (7 - h)) (o r) 8 := yd_S_b (fun i hi hb => by
      have := yd_sb hfull (hsub r hr) hb
      unfold yd_f
      rw [if_pos ⟨hr, this⟩])
    rw [a1, yd_S_add, yd_S_mul, yd_S_T (f := fun h => (r : Int) * 8 ^ (7 - h))]
    rfl
  rw [yd_T_cg e1, yd_T_add]
  have e2 : yd_T (fun r => yd_T (fun h => if (o r).testBit h = true then (r : Int) * 8 ^ (7 - h) else 0) 8) c = yd_N (fun h => if h < n then ρ h else 0) := by
    rw [yd_T_sw]
    have e3 : ∀ h, h < 8 → yd_T (fun r => if (o r).testBit h = true then (r : Int) * 8 ^ (7 - h) else 0) c = (((if h < n then ρ h else 0 : Nat)) : Int) * 8 ^ (7 - h) := fun h hh => by
      by_cases g : h < n
      · obtain ⟨g1, g2⟩ := hρ h g
        rw [if_pos g, yd_T_one (P := fun r => (o r).testBit h = true) (v := fun r => (r : Int) * 8 ^ (7 - h)) g1 g2 (fun r hr hb => hB.2 h r (ρ h) (Nat.zero_le _) hr (Nat.zero_le _) g1 hb g2)]
      · rw [if_neg g, yd_T_0 (fun r hr => if_neg (fun z => g (yd_sb hfull (hsub r hr) z)))]
        simp
    rw [yd_T_cg e3]
    show 0 + _ + _ + _ + _ + _ + _ + _ + _ = _
    unfold yd_N
    dsimp only
    omega
  rw [e2]
/-- bounds -/
theorem yd_T_r {g : Nat → Int} {M : Int} : ∀ {k : Nat}, (∀ r, r < k → 0 ≤ g r ∧ g r ≤ M) → 0 ≤ yd_T g k ∧ yd_T g k ≤ (k : Int) * M
  | 0, _ => by
    show (0 : Int) ≤ 0 ∧ (0 : Int) ≤ ((0 : Nat) : Int) * M
    simp
  | k + 1, h => by
    have h1 := yd_T_r (k := k) (M := M) (fun i hi => h i (by omega))
    obtain ⟨h2, h3⟩ := h k (by omega)
    show 0 ≤ yd_T g k + g k ∧ yd_T g k + g k ≤ _
    have e : (((k + 1 : Nat)) : Int) * M = (k : Int) * M + M := by
      rw [show (((k + 1 : Nat)) : Int) = (k : Int) + 1 by omega, Int.add_mul, Int.one_mul]
    rw [e]
    omega
theorem yd_Sr_r (hc : c ≤ 8) (hb : ∀ r h, r < c → h < 8 → 0 ≤ (Hd r h).toInt ∧ (Hd r h).toInt ≤ 999) : 0 ≤ yd_Sr (yd_wh Hd) c c o ∧ yd_Sr (yd_wh Hd) c c o ≤ 64000 := by
  rw [yd_Sr_c]
  have := yd_T_r (g := fun r => yd_wh Hd r (o r)) (M := 7992) (k := c) (fun r hr => by
    have := yd_S_r (s := o r) (n := 8) (M := 999) (f := fun h => (Hd r h).toInt) (fun i hi => hb r i hr hi)
    unfold yd_wh
    omega)
  omega
theorem yd_N_r {a : Nat → Nat} (h : ∀ i, i < 8 → a i ≤ 7) : 0 ≤ yd_N a ∧ yd_N a < 16777216 := by
  have h0 := h 0 (by omega)
  have h1 := h 1 (by omega)
  have h2 := h 2 (by omega)
  have h3 := h 3 (by omega)
  have h4 := h 4 (by omega)
  have h5 := h 5 (by omega)
  have h6 := h 6 (by omega)
  have h7 := h 7 (by omega)
  unfold yd_N
  omega
theorem yd_N_cg {a b : Nat → Nat} (h : ∀ i, i < 8 → a i = b i) : yd_N a = yd_N b := by
  unfold yd_N
  rw [h 0 (by omega), h 1 (by omega), h 2 (by omega), h 3 (by omega), h 4 (by omega), h 5 (by omega), h 6 (by omega), h 7 (by omega)]
/-- the less number is the less row -/
theorem yd_N_lex {a b : Nat → Nat} (ha : ∀ i, i < 8 → a i ≤ 7) (hb : ∀ i, i < 8 → b i ≤ 7) (hle : yd_N b ≤ yd_N a) (hlex : ∀ i, i < 8 → (∀ j, j < i → b j = a j) → a i ≤ b i) : ∀ i, i < 8 → b i = a i := by
  have a0 := ha 0 (by omega)
  have a1 := ha 1 (by omega)
  have a2 := ha 2 (by omega)
  have a3 := ha 3 (by omega)
  have a4 := ha 4 (by omega)
  have a5 := ha 5 (by omega)
  have a6 := ha 6 (by omega)
  have a7 := ha 7 (by omega)
  have b0 := hb 0 (by omega)
  have b1 := hb 1 (by omega)
  have b2 := hb 2 (by omega)
  have b3 := hb 3 (by omega)
  have b4 := hb 4 (by omega)
  have b5 := hb 5 (by omega)
  have b6 := hb 6 (by omega)
  have b7 := hb 7 (by omega)
  unfold yd_N at hle
  have l0 := hlex 0 (by omega) (fun j hj => absurd hj (Nat.not_lt_zero j))
  have e0 : b 0 = a 0 := by omega
  have l1 := hlex 1 (by omega) (fun j hj => by rw [show j = 0 by omega]; exact e0)
  have e1 : b 1 = a 1 := by omega
  have l2 := hlex 2 (by omega) (fun j hj => by rcases (show j = 0 ∨ j = 1 by omega) with rfl | rfl <;> assumption)
  have e2 : b 2 = a 2 := by omega
  have l3 := hlex 3 (by omega) (fun j hj => by rcases (show j = 0 ∨ j = 1 ∨ j = 2 by omega) with rfl | rfl | rfl <;> assumption)
  have e3 : b 3 = a 3 := by omega
  have l4 := hlex 4 (by omega) (fun j hj => by rcases (show j = 0 ∨ j = 1 ∨ j = 2 ∨ j = 3 by omega) with rfl | rfl | rfl | rfl <;> assumption)
  have e4 : b 4 = a 4 := by omega
  have l5 := hlex 5 (by omega) (fun j hj => by rcases (show j = 0 ∨ j = 1 ∨ j = 2 ∨ j = 3 ∨ j = 4 by omega) with rfl | rfl | rfl | rfl | rfl <;> assumption)
  have e5 : b 5 = a 5 := by omega
  have l6 := hlex 6 (by omega) (fun j hj => by rcases (show j = 0 ∨ j = 1 ∨ j = 2 ∨ j = 3 ∨ j = 4 ∨ j = 5 by omega) with rfl | rfl | rfl | rfl | rfl | rfl <;> assumption)
  have e6 : b 6 = a 6 := by omega
  have l7 := hlex 7 (by omega) (fun j hj => by rcases (show j = 0 ∨ j = 1 ∨ j = 2 ∨ j = 3 ∨ j = 4 ∨ j = 5 ∨ j = 6 by omega) with rfl | rfl | rfl | rfl | rfl | rfl | rfl <;> assumption)
  have e7 : b 7 = a 7 := by omega
  intro i hi
  rcases (show i = 0 ∨ i = 1 ∨ i = 2 ∨ i = 3 ∨ i = 4 ∨ i = 5 ∨ i = 6 ∨ i = 7 by omega) with rfl | rfl | rfl | rfl | rfl | rfl | rfl | rfl <;> assumption
theorem yd_A_Bw {may mst : Nat → Nat} {cap : Nat → Int} : yd_A c full may mst cap o ↔ (∀ r, r < c → o r &&& may r = o r ∧ (yd_pc (o r) : Int) ≤ cap r ∧ mst r &&& o r = mst r) ∧ yd_Bw 0 c full o := by
  unfold yd_A
  rw [yd_Pr_iff (Nat.le_refl _), yd_Pr_Bw (Nat.le_refl _), Nat.sub_self]
  exact ⟨fun z => ⟨fun r hr => z.1 r (Nat.zero_le _) hr, z.2⟩, fun z => ⟨fun r _ hr => z.1 r hr, z.2⟩⟩
theorem yd_cmp (hn : n ≤ 8) (hc : c ≤ 8) (hfull : full = 2 ^ n - 1) {mayC mayR : Nat → Nat} {mo : Nat → Int32} (hb : ∀ r h, r < c → h < 8 → 0 ≤ (Hd r h).toInt ∧ (Hd r h).toInt ≤ 999) (hm : ∀ r, r < c → mayC r = mayR r) (hm0 : ∀ r, c ≤ r → r < 8 → mayC r = 0) {v b : Int} (hv1 : v < yd_NO → ∃ o, yd_Pt (yd_okc mayC (yd_cap c mo) (yd_NO - 1) (fun _ => 0) (yd_f n c Hd)) 8 full o ∧ v = yd_Ws (yd_wc (fun _ => 0) (yd_f n c Hd)) 8 o) (hv2 : ∀ o, yd_Pt (yd_okc mayC (yd_cap c mo) (yd_NO - 1) (fun _ => 0) (yd_f n c Hd)) 8 full o → v ≤ yd_Ws (yd_wc (fun _ => 0) (yd_f n c Hd)) 8 o) (hb1 : b < yd_FAR → ∃ o, yd_A c full mayR (fun _ => 0) (yd_cap c mo) o ∧ b = yd_Sr (yd_wh Hd) c c o) (hb2 : ∀ o, yd_A c full mayR (fun _ => 0) (yd_cap c mo) o → b ≤ yd_Sr (yd_wh Hd) c c o) : (v < yd_NO ↔ b < yd_FAR) ∧ (b < yd_FAR → ∀ ρ, yd_lex c full n 0 mayR (fun _ => 0) (yd_cap c mo) (yd_wh Hd) b ρ → v = b * 16777216 + yd_N (fun h => if h < n then ρ h else 0)) := by
  have hNO : yd_NO = 1152921504606846976 := rfl
  have hFAR : yd_FAR = 1000000000 := rfl
  -- the class's are the reference's
  have toA : ∀ o, yd_Pt (yd_okc mayC (yd_cap c mo) (yd_NO - 1) (fun _ => 0) (yd_f n c Hd)) 8 full o → yd_A c full mayR (fun _ => 0) (yd_cap c mo) o ∧ ∀ r, c ≤ r → r < 8 → o r = 0 := fun o ho => by
    obtain ⟨h1, h2⟩ := yd_Pt_iff.mp ho
    have h0 : ∀ r, c ≤ r → r < 8 → o r = 0 := fun r a1 a2 => by
      obtain ⟨g1, -⟩ := h1 r a2
      rw [hm0 r a1 a2, Nat.and_zero] at g1
      exact g1.symm
    refine ⟨yd_A_Bw.mpr ⟨fun r hr => ?_, (yd_Bw_0 hc h0).mp h2⟩, h0⟩
    obtain ⟨g1, g2, g3⟩ := h1 r (by omega)
    rw [hm r hr] at g1
    exact ⟨g1, g2, Nat.zero_and _⟩
  -- and the other way round
  have toP : ∀ o, yd_A c full mayR (fun _ => 0) (yd_cap c mo) o → yd_Pt (yd_okc mayC (yd_cap c mo) (yd_NO - 1) (fun _ => 0) (yd_f n c Hd)) 8 full (fun r => if r < c then o r else 0) ∧ yd_Bw 0 c full (fun r => if r < c then o r else 0) ∧ yd_Sr (yd_wh Hd) c c (fun r => if r < c then o r else 0) = yd_Sr (yd_wh Hd) c c o := fun o ho => by
    obtain ⟨h1, h2⟩ := yd_A_Bw.mp ho
    have hB : yd_Bw 0 c full (fun r => if r < c then o r else 0) := yd_Bw_cg (fun r hr => if_pos hr) h2
    refine ⟨yd_Pt_iff.mpr ⟨fun r hr => ?_, (yd_Bw_0 hc (fun r a1 a2 => if_neg (by omega))).mpr hB⟩, hB, ?_⟩
    · by_cases g : r < c
      · obtain ⟨g1, g2, -⟩ := h1 r g
        rw [if_pos g]
        refine ⟨by rw [hm r g]; exact g1, g2, ?_⟩
        show yd_w 0 (yd_f n c Hd r) (o r) ≤ _
        rw [yd_w_S]
        have := yd_S_r (s := o r) (n := 8) (M := 68719476736) (f := yd_f n c Hd r) (fun i hi => yd_f_r hb hr hi)
        omega
      · rw [if_neg g]
        refine ⟨Nat.zero_and _, ?_, ?_⟩
        · rw [show yd_pc 0 = 0 by decide]
          unfold yd_cap
          rw [if_neg g]
          exact Int.le_refl _
        · show yd_w 0 (yd_f n c Hd r) 0 ≤ _
          have : yd_w 0 (yd_f n c Hd r) 0 = 0 := rfl
          omega
    · rw [yd_Sr_c, yd_Sr_c]
      exact yd_T_cg (fun r hr => by rw [if_pos hr])
  have dig : ∀ ρ : Nat → Nat, (∀ h, h < n → ρ h < c) → ∀ i, i < 8 → (if i < n then ρ i else 0) ≤ 7 := fun ρ h i hi => by
    split
    · rename_i z
      have := h i z
      omega
    · omega
  refine ⟨⟨fun z => ?_, fun z => ?_⟩, fun z ρ hρ => ?_⟩
  · obtain ⟨o, h1, h2⟩ := hv1 z
    have := hb2 o (toA o h1).1
    have := yd_Sr_r (c := c) (o := o) hc hb
    omega
  · obtain ⟨o, h1, h2⟩ := hb1 z
    obtain ⟨k1, k2, k3⟩ := toP o h1
    have := hv2 _ k1
    obtain ⟨σ, hσ⟩ := yd_rw_ex hfull k2
    rw [yd_num (Hd := Hd) hn hc hfull k2 (fun r a1 a2 => if_neg (by omega)) hσ, k3] at this
    have r1 := yd_Sr_r (c := c) (o := o) hc hb
    have r2 := yd_N_r (dig σ (fun h hh => (hσ h hh).1))
    omega
  · obtain ⟨l1, ⟨o', ⟨l2, l3⟩, l4⟩, l5⟩ := hρ
    obtain ⟨k1, k2, k3⟩ := toP o' l2
    have hvN : v < yd_NO := by
      have := hv2 _ k1
      have hσ : yd_rw n c (fun r => if r < c then o' r else 0) ρ := fun h hh => ⟨l1 h (Nat.zero_le _) hh, by show (if ρ h < c then o' (ρ h) else 0).testBit h = true; rw [if_pos (l1 h (Nat.zero_le _) hh)]; exact l4 h (Nat.zero_le _) hh⟩
      rw [yd_num (Hd := Hd) hn hc hfull k2 (fun r a1 a2 => if_neg (by omega)) hσ, k3] at this
      have r1 := yd_Sr_r (c := c) (o := o') hc hb
      have r2 := yd_N_r (dig ρ (fun h hh => l1 h (Nat.zero_le _) hh))
      omega
    have hσ' : yd_rw n c (fun r => if r < c then o' r else 0) ρ := fun h hh => ⟨l1 h (Nat.zero_le _) hh, by show (if ρ h < c then o' (ρ h) else 0).testBit h = true; rw [if_pos (l1 h (Nat.zero_le _) hh)]; exact l4 h (Nat.zero_le _) hh⟩
    have hup := hv2 _ k1
    rw [yd_num (Hd := Hd) hn hc hfull k2 (fun r a1 a2 => if_neg (by omega)) hσ', k3, l3] at hup
    obtain ⟨o, p1, p2⟩ := hv1 hvN
    obtain ⟨p3, p4⟩ := toA o p1
    have hB := (yd_A_Bw.mp p3).2
    obtain ⟨σ, hσ⟩ := yd_rw_ex hfull hB
    rw [yd_num (Hd := Hd) hn hc hfull hB p4 hσ] at p2
    have q1 := hb2 o p3
    have r1 := yd_N_r (dig ρ (fun h hh => l1 h (Nat.zero_le _) hh))
    have r2 := yd_N_r (dig σ (fun h hh => (hσ h hh).1))
    have q2 : yd_Sr (yd_wh Hd) c c o = b := by omega
    have hle : yd_N (fun h => if h < n then σ h else 0) ≤ yd_N (fun h => if h < n then ρ h else 0) := by
      rw [q2] at p2
      omega
    have heq := yd_N_lex (a := fun h => if h < n then ρ h else 0) (b := fun h => if h < n then σ h else 0) (dig ρ (fun h hh => l1 h (Nat.zero_le _) hh)) (dig σ (fun h hh => (hσ h hh).1)) hle (fun i hi hj => by
      by_cases g : i < n
      · rw [if_pos g, if_pos g]
        refine Decidable.byContradiction fun zz => ?_
        refine l5 i (Nat.zero_le _) g o ⟨p3, q2⟩ (fun i' _ hi' => ?_) (σ i) (by omega) (hσ i g).2
        have := hj i' hi'
        rw [if_pos (by omega), if_pos (by omega)] at this
        rw [← this]
        exact (hσ i' (by omega)).2
      · rw [if_neg g, if_neg g]
        exact Nat.le_refl _)
    have e9 : yd_N (fun h => if h < n then σ h else 0) = yd_N (fun h => if h < n then ρ h else 0) := yd_N_cg heq
    rw [p2, q2, e9]
end YDQ
