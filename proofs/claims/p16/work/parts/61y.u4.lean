/-! A NIGHT as one step of states, in both -/
/-- the law by values -/
def yLv (C : List Int32) (T : Nat → Int32) (n0 : Nat) (val : (Nat → Int32) → Int32) : Prop := ∀ e : Nat → Int32, yk_evl e C = [val e] ∧ (n0 = 0 → val e = yg_v1 e) ∧ (0 < n0 → yok e T n0 n0 (val e))
theorem yLv_of {I : Nat → Nat → Int32} (h : yL I) : ∃ q n0 val, I 10 4 = Int32.ofNat q ∧ q ≤ 40 ∧ I 94 20 = Int32.ofNat n0 ∧ n0 ≤ 40 ∧ yLv (yv_c (I 11) q) (yk_t I 102 n0 40) n0 val := by
  obtain ⟨q, n0, h1, h2, h3, h4, h5⟩ := h
  exact ⟨q, n0, fun e => (h5 e).choose, h1, h2, h3, h4, fun e => (h5 e).choose_spec⟩
def yHv (val : (Nat → Int32) → Int32) (ca mo wi s : Nat → Int32) (r h : Nat) : Int32 := ycl (val (yth (Int32.ofNat h) (s (8 + r)) (wi r) (mo r) (Int32.ofNat r) (ym7 (s 24)) (ybc (ca r)))) 0 999
section YU4
variable {C : List Int32} {T : Nat → Int32} {n0 n c N : Nat} {val : (Nat → Int32) → Int32} {ca mo wi s s' ti' wi' mo' ca' ti : Nat → Int32} {ni be : Int32}
theorem yHv_r {r h : Nat} : 0 ≤ (yHv val ca mo wi s r h).toInt ∧ (yHv val ca mo wi s r h).toInt ≤ 999 := ycl_r (lo := 0) (hi := 999) (by decide)
theorem yHv_c (hL : yLv C T n0 val) (hr : ∀ r, r < c → ti' r = s (8 + r) ∧ wi' r = wi r ∧ mo' r = mo r ∧ ca' r = ca r) (hni : ni = s 24) : yHd C ti' wi' mo' ca' ni c (yHv val ca mo wi s) := by
  intro r h hr' hh
  obtain ⟨a1, a2, a3, a4⟩ := hr r hr'
  refine ⟨_, (hL _).1, ?_⟩
  rw [a1, a2, a3, a4, hni]
  rfl
theorem yHv_rr (hL : yLv C T n0 val) (hti : ∀ r, r < 8 → ti r = s (8 + r)) (hni : ni = s 24) : yr_Hd T n0 ti wi mo ca ni (yHv val ca mo wi s) := by
  intro r h hr hh
  refine ⟨fun z => ?_, fun z => ⟨_, (hL _).2.2 z, ?_⟩⟩
  · unfold yHv
    rw [(hL _).2.1 z, hti r hr]
    show ycl (s (8 + r) + wi r + (if (5 : Int32) < Int32.ofNat h then 1 else 0) * 9) 0 999 = ycl (s (8 + r) + wi r + (if 5 < h then 9 else 0)) 0 999
    have e5 : (5 : Int32).toInt = 5 := by decide
    have hq : (5 : Int32) < Int32.ofNat h ↔ 5 < h := by
      rw [xt_lt, xt_nat (by omega), e5]
      omega
    by_cases g : 5 < h
    · rw [if_pos g, if_pos (hq.mpr g), show (1 : Int32) * 9 = 9 by decide]
    · rw [if_neg g, if_neg (fun z => g (hq.mp z)), show (0 : Int32) * 9 = 0 by decide]
  · rw [hti r hr, hni]
    rfl
theorem yrn_cg {ro ro' il il' ca2 mo2 wi2 : Nat → Int32} (h1 : ∀ h, h < 8 → ro h = ro' h) (hro : ∀ h, h < 8 → -1 ≤ (ro h).toInt ∧ (ro h).toInt ≤ 7) (h2 : ∀ r, r < 8 → il r = il' r) (h5 : ∀ r, r < 8 → ca r = ca2 r ∧ mo r = mo2 r ∧ wi r = wi2 r) : ∀ n, n ≤ 8 → yn_rn be ro ca mo wi il n = yn_rn be ro' ca2 mo2 wi2 il' n ∧ -1 ≤ (yn_rn be ro' ca2 mo2 wi2 il' n).2.2.2.toInt ∧ (yn_rn be ro' ca2 mo2 wi2 il' n).2.2.2.toInt ≤ 7
  | 0, _ => ⟨rfl, by show -1 ≤ ((-1 : Int32)).toInt; decide, by show ((-1 : Int32)).toInt ≤ 7; decide⟩
  | h + 1, hh => by
    obtain ⟨ih, il1, il2⟩ := yrn_cg h1 hro h2 h5 h (by omega)
    have e1 := h1 h (by omega)
    have hr9 := hro h (by omega)
    rw [e1] at hr9
    have hlt : (ro' h).toInt.toNat < 8 := by omega
    have e2 := h2 (ro' h).toInt.toNat hlt
    obtain ⟨e5, e6, e7⟩ := h5 (ro' h).toInt.toNat hlt
    have e8 := (h5 (yn_rn be ro' ca2 mo2 wi2 il' h).2.2.2.toInt.toNat (by omega)).2.2
    show yn_r1 be ro ca mo wi il h (yn_rn be ro ca mo wi il h) = yn_r1 be ro' ca2 mo2 wi2 il' h (yn_rn be ro' ca2 mo2 wi2 il' h) ∧ -1 ≤ (yn_r1 be ro' ca2 mo2 wi2 il' h (yn_rn be ro' ca2 mo2 wi2 il' h)).2.2.2.toInt ∧ (yn_r1 be ro' ca2 mo2 wi2 il' h (yn_rn be ro' ca2 mo2 wi2 il' h)).2.2.2.toInt ≤ 7
    rw [ih]
    by_cases g : ¬ ro' h = -1 ∧ yhb (ca2 (ro' h).toInt.toNat) (Int32.ofNat h) ∧ il' (ro' h).toInt.toNat = 0 ∧ (yn_rn be ro' ca2 mo2 wi2 il' h).2.2.1 (ro' h).toInt.toNat < mo2 (ro' h).toInt.toNat
    · have g' : ¬ ro h = -1 ∧ yhb (ca (ro h).toInt.toNat) (Int32.ofNat h) ∧ il (ro h).toInt.toNat = 0 ∧ (yn_rn be ro' ca2 mo2 wi2 il' h).2.2.1 (ro h).toInt.toNat < mo (ro h).toInt.toNat := by
        rw [e1, e2, e5, e6]
        exact g
      rw [yn_r1_T g, yn_r1_T g', e1, e7, e8]
      exact ⟨rfl, hr9.1, hr9.2⟩
    · have g' : ¬ (¬ ro h = -1 ∧ yhb (ca (ro h).toInt.toNat) (Int32.ofNat h) ∧ il (ro h).toInt.toNat = 0 ∧ (yn_rn be ro' ca2 mo2 wi2 il' h).2.2.1 (ro h).toInt.toNat < mo (ro h).toInt.toNat) := by
        rw [e1, e2, e5, e6]
        exact g
      rw [yn_r1_F g, yn_r1_F g']
      exact ⟨rfl, by show -1 ≤ ((-1 : Int32)).toInt; decide, by show ((-1 : Int32)).toInt ≤ 7; decide⟩
theorem yrm_cg {ro ro' il il' ca2 mo2 wi2 : Nat → Int32} {Hd Hd' : Nat → Nat → Int32} (h1 : ∀ h, h < 8 → ro h = ro' h) (hro : ∀ h, h < 8 → -1 ≤ (ro h).toInt ∧ (ro h).toInt ≤ 7) (h2 : ∀ r, r < 8 → il r = il' r) (h5 : ∀ r, r < 8 → ca r = ca2 r ∧ mo r = mo2 r ∧ wi r = wi2 r) (h3 : ∀ r h, r < 8 → h < 8 → Hd r h = Hd' r h) : ∀ n, n ≤ 8 → yr_m be ro ca mo wi il Hd n = yr_m be ro' ca2 mo2 wi2 il' Hd' n
  | 0, _ => rfl
  | h + 1, hh => by
    have ih := yrm_cg h1 hro h2 h5 h3 h (by omega)
    have e1 := h1 h (by omega)
    have hlt : (ro' h).toInt.toNat < 8 := by have := hro h (by omega); rw [e1] at this; omega
    have e2 := h2 (ro' h).toInt.toNat hlt
    obtain ⟨e5, e6, e7⟩ := h5 (ro' h).toInt.toNat hlt
    have e3 := h3 (ro' h).toInt.toNat h hlt (by omega)
    have e4 := (yrn_cg (be := be) h1 hro h2 h5 h (by omega)).1
    by_cases g : ¬ ro' h = -1 ∧ yhb (ca2 (ro' h).toInt.toNat) (Int32.ofNat h) ∧ il' (ro' h).toInt.toNat = 0 ∧ (yn_rn be ro' ca2 mo2 wi2 il' h).2.2.1 (ro' h).toInt.toNat < mo2 (ro' h).toInt.toNat
    · have g' : ¬ ro h = -1 ∧ yhb (ca (ro h).toInt.toNat) (Int32.ofNat h) ∧ il (ro h).toInt.toNat = 0 ∧ (yn_rn be ro ca mo wi il h).2.2.1 (ro h).toInt.toNat < mo (ro h).toInt.toNat := by
        rw [e4, e1, e2, e5, e6]
        exact g
      rw [yr_m_T g, yr_m_T g', e1, ih, e3]
    · have g' : ¬ (¬ ro h = -1 ∧ yhb (ca (ro h).toInt.toNat) (Int32.ofNat h) ∧ il (ro h).toInt.toNat = 0 ∧ (yn_rn be ro ca mo wi il h).2.2.1 (ro h).toInt.toNat < mo (ro h).toInt.toNat) := by
        rw [e4, e1, e2, e5, e6]
        exact g
      rw [yr_m_F g, yr_m_F g', ih]
/-- who rides, where gaps are -/
noncomputable def yNg (n : Nat) (be : Int32) (ca mo wi s : Nat → Int32) : yn_T := yn_rn be s ca mo wi (fun i => s (16 + i)) n
noncomputable def yNt (n c : Nat) (be : Int32) (ca mo wi : Nat → Int32) (val : (Nat → Int32) → Int32) (s : Nat → Int32) (i : Nat) : Int32 := if i < 8 then s i else if i < 16 then (if i - 8 < c then ytr ((yNg n be ca mo wi s).2.2.1 (i - 8)) (s i) (yr_m be s ca mo wi (fun i => s (16 + i)) (yHv val ca mo wi s) n (i - 8)) else s i) else if i < 24 then s i else if i = 24 then s 24 + 1 else if i = 25 then s 25 + ybc (yNg n be ca mo wi s).1 else s 26 + ybc (yNg n be ca mo wi s).2.1
theorem yNt_1 {i : Nat} (h : i < 8) : yNt n c be ca mo wi val s i = s i := if_pos h
theorem yNt_2 {r : Nat} (h : r < 8) (g : r < c) : yNt n c be ca mo wi val s (8 + r) = ytr ((yNg n be ca mo wi s).2.2.1 r) (s (8 + r)) (yr_m be s ca mo wi (fun i => s (16 + i)) (yHv val ca mo wi s) n r) := by
  unfold yNt
  rw [if_neg (by omega), if_pos (by omega), show 8 + r - 8 = r by omega, if_pos g]
theorem yNt_3 {r : Nat} (h : r < 8) (g : c ≤ r) : yNt n c be ca mo wi val s (8 + r) = s (8 + r) := by
  unfold yNt
  rw [if_neg (by omega), if_pos (by omega), if_neg (by omega)]
theorem yNt_4 {r : Nat} (h : r < 8) : yNt n c be ca mo wi val s (16 + r) = s (16 + r) := by
  unfold yNt
  rw [if_neg (by omega), if_neg (by omega), if_pos (by omega)]
theorem yNt_24 : yNt n c be ca mo wi val s 24 = s 24 + 1 := by
  unfold yNt
  rw [if_neg (by decide), if_neg (by decide), if_neg (by decide), if_pos rfl]
theorem yNt_25 : yNt n c be ca mo wi val s 25 = s 25 + ybc (yNg n be ca mo wi s).1 := by
  unfold yNt
  rw [if_neg (by decide), if_neg (by decide), if_neg (by decide), if_neg (by decide), if_pos rfl]
theorem yNt_26 : yNt n c be ca mo wi val s 26 = s 26 + ybc (yNg n be ca mo wi s).2.1 := by
  unfold yNt
  rw [if_neg (by decide), if_neg (by decide), if_neg (by decide), if_neg (by decide), if_neg (by decide)]
theorem y27 {P : Nat → Prop} (h1 : ∀ i, i < 8 → P i) (h2 : ∀ r, r < 8 → P (8 + r)) (h3 : ∀ r, r < 8 → P (16 + r)) (h4 : P 24) (h5 : P 25) (h6 : P 26) : ∀ i, i < 27 → P i := by
  intro i hi
  by_cases a : i < 8
  · exact h1 i a
  by_cases b : i < 16
  · have := h2 (i - 8) (by omega)
    rwa [show 8 + (i - 8) = i by omega] at this
  by_cases e : i < 24
  · have := h3 (i - 16) (by omega)
    rwa [show 16 + (i - 16) = i by omega] at this
  rcases (show i = 24 ∨ i = 25 ∨ i = 26 by omega) with rfl | rfl | rfl
  · exact h4
  · exact h5
  · exact h6
theorem yNg_cg {ca2 mo2 wi2 : Nat → Int32} (hc : c ≤ 8) (hn : n ≤ 8) (h : ∀ i, i < 27 → s i = s' i) (h5 : ∀ r, r < 8 → ca r = ca2 r ∧ mo r = mo2 r ∧ wi r = wi2 r) (hw : yq_w c s) : yNg n be ca mo wi s = yNg n be ca2 mo2 wi2 s' := (yrn_cg (fun i hi => h i (by omega)) (fun i hi => by have := hw.1 i hi; omega) (fun r hr => h (16 + r) (by omega)) h5 n hn).1
theorem yHv_cg {ca2 mo2 wi2 : Nat → Int32} (h : ∀ i, i < 27 → s i = s' i) (h5 : ∀ r, r < 8 → ca r = ca2 r ∧ mo r = mo2 r ∧ wi r = wi2 r) {r k : Nat} (hr : r < 8) : yHv val ca mo wi s r k = yHv val ca2 mo2 wi2 s' r k := by
  obtain ⟨e1, e2, e3⟩ := h5 r hr
  unfold yHv
  rw [h (8 + r) (by omega), h 24 (by omega), e1, e2, e3]
theorem yNt_cg {ca2 mo2 wi2 : Nat → Int32} (hc : c ≤ 8) (hn : n ≤ 8) (h : ∀ i, i < 27 → s i = s' i) (h5 : ∀ r, r < 8 → ca r = ca2 r ∧ mo r = mo2 r ∧ wi r = wi2 r) (hw : yq_w c s) : ∀ i, i < 27 → yNt n c be ca mo wi val s i = yNt n c be ca2 mo2 wi2 val s' i := by
  have hg := yNg_cg (be := be) hc hn h h5 hw
  refine y27 (fun i hi => ?_) (fun r hr => ?_) (fun r hr => ?_) ?_ ?_ ?_
  · rw [yNt_1 hi, yNt_1 hi, h i (by omega)]
  · by_cases g : r < c
    · rw [yNt_2 hr g, yNt_2 hr g, hg, h (8 + r) (by omega), yrm_cg (be := be) (ro' := s') (il' := fun i => s' (16 + i)) (Hd' := yHv val ca2 mo2 wi2 s') (fun i hi => h i (by omega)) (fun i hi => by have := hw.1 i hi; omega) (fun r hr => h (16 + r) (by omega)) h5 (fun r k hr _ => yHv_cg h h5 hr) n hn]
    · rw [yNt_3 hr (by omega), yNt_3 hr (by omega), h (8 + r) (by omega)]
  · rw [yNt_4 hr, yNt_4 hr, h (16 + r) (by omega)]
  · rw [yNt_24, yNt_24, h 24 (by decide)]
  · rw [yNt_25, yNt_25, hg, h 25 (by decide)]
  · rw [yNt_26, yNt_26, hg, h 26 (by decide)]
theorem yNt_w (hc : c ≤ 8) (hn : n ≤ 8) (hw : yq_w c s) : yq_w c (yNt n c be ca mo wi val s) := by
  refine ⟨fun i hi => ?_, fun r hr => ?_⟩
  · rw [yNt_1 hi]
    exact hw.1 i hi
  · rw [yNt_4 hr]
    by_cases g : r < c
    · rw [yNt_2 hr g]
      obtain ⟨w1, w2, -⟩ := hw.2 r hr
      have hb := yrm_r (be := be) (ro := s) (ca := ca) (mo := mo) (wi := wi) (il := fun i => s (16 + i)) (Hd := yHv val ca mo wi s) (fun _ _ _ _ => yHv_r) (fun h hh => by have := hw.1 h hh; omega) n hn r
      obtain ⟨q1, q2⟩ := ytr_r (rd := (yNg n be ca mo wi s).2.2.1 r) (ti := s (8 + r)) (M := yr_m be s ca mo wi (fun i => s (16 + i)) (yHv val ca mo wi s) n r) ⟨w1, w2⟩ (by omega)
      exact ⟨q1, q2, fun z => by omega⟩
    · rw [yNt_3 hr (by omega)]
      exact hw.2 r hr
noncomputable def yNN (n c : Nat) (be : Int32) (ca mo wi : Nat → Int32) (val : (Nat → Int32) → Int32) : Nat → (Nat → Int32) → Nat → Int32
  | 0, s => s
  | N + 1, s => yNN n c be ca mo wi val N (yNt n c be ca mo wi val s)
theorem yNN_cg {ca2 mo2 wi2 : Nat → Int32} (hc : c ≤ 8) (hn : n ≤ 8) (h5 : ∀ r, r < 8 → ca r = ca2 r ∧ mo r = mo2 r ∧ wi r = wi2 r) : ∀ (N : Nat) (s s' : Nat → Int32), (∀ i, i < 27 → s i = s' i) → yq_w c s → ∀ i, i < 27 → yNN n c be ca mo wi val N s i = yNN n c be ca2 mo2 wi2 val N s' i
  | 0, s, s', h, _ => h
  | N + 1, s, s', h, hw => yNN_cg hc hn h5 N _ _ (yNt_cg hc hn h h5 hw) (yNt_w hc hn hw)
theorem yNN_w (hc : c ≤ 8) (hn : n ≤ 8) : ∀ (N : Nat) (s : Nat → Int32), yq_w c s → yq_w c (yNN n c be ca mo wi val N s)
  | 0, s, hw => hw
  | N + 1, s, hw => yNN_w hc hn N _ (yNt_w hc hn hw)
theorem yq_s_1 {I : Nat → Nat → Int32} {k i : Nat} (h : i < 8) : yq_s I k i = I (k + 1) i := if_pos h
theorem yq_s_2 {I : Nat → Nat → Int32} {k r : Nat} (h : r < 8) : yq_s I k (8 + r) = I (k + 2) r := by
  unfold yq_s
  rw [if_neg (by omega), if_pos (by omega), show 8 + r - 8 = r by omega]
def yIl (il : Int32) (r : Nat) : Int32 := if ((il >>> (Int32.ofNat r &&& 31)) &&& (1 : Int32)) = (1 : Int32) then 1 else 0
theorem yIl_T {il : Int32} {r : Nat} (h : yhb il (Int32.ofNat r)) : yIl il r = 1 := if_pos h
theorem yIl_F {il : Int32} {r : Nat} (h : ¬ yhb il (Int32.ofNat r)) : yIl il r = 0 := if_neg h
theorem yq_s_3 {I : Nat → Nat → Int32} {k r : Nat} (h : r < 8) : yq_s I k (16 + r) = yIl (I k 2) r := by
  unfold yq_s yIl
  rw [if_neg (by omega), if_neg (by omega), if_pos (by omega), show 16 + r - 16 = r by omega]
theorem yq_s_24 {I : Nat → Nat → Int32} {k : Nat} : yq_s I k 24 = I k 3 := by
  unfold yq_s
  rw [if_neg (by decide), if_neg (by decide), if_neg (by decide)]
theorem yq_s_25 {I : Nat → Nat → Int32} {k : Nat} : yq_s I k 25 = I k 4 := by
  unfold yq_s
  rw [if_neg (by decide), if_neg (by decide), if_neg (by decide)]
theorem yq_s_26 {I : Nat → Nat → Int32} {k : Nat} : yq_s I k 26 = I k 5 := by
  unfold yq_s
  rw [if_neg (by decide), if_neg (by decide), if_neg (by decide)]
end YU4
section YU4C15
variable {C : List Int32} {T : Nat → Int32} {n0 n c q d : Nat} {val : (Nat → Int32) → Int32} {ca mo wi : Nat → Int32} {I : Nat → Nat → Int32} {J : Nat → Nat → Int64} {R : Nat → Nat → Nat}
theorem yNc15 (hn : n ≤ 8) (hc : c ≤ 8) (hq : q ≤ 40) (hR : R 3 9 = 10) (i1 : I 3 7 = Int32.ofNat n) (i2 : I 3 6 = Int32.ofNat c) (i4 : I 10 4 = Int32.ofNat q) (hL : yLv (yv_c (I 11) q) T n0 val) (hr : ∀ r, r < c → I 4 r = ca r ∧ I 5 r = mo r ∧ I 6 r = wi r) (hw : yq_w c (yq_s I 15)) : ∃ I', xq_D xqP (d + 5) 25 [.ref 3, .ref 15] (I, J, R) = some (none, I', J, R) ∧ (∀ i, i < 27 → yq_s I' 15 i = yNt n c (I 3 8) ca mo wi val (yq_s I 15) i) ∧ I' 3 10 = (yNg n (I 3 8) ca mo wi (yq_s I 15)).1 ∧ I' 3 11 = (yNg n (I 3 8) ca mo wi (yq_s I 15)).2.1 ∧ ∀ k j, ¬ k = 7 → ¬ k = 8 → ¬ k = 9 → ¬ k = 13 → ¬ k = 17 → ¬ (k = 3 ∧ (j = 10 ∨ j = 11)) → ¬ (k = 15 ∧ (j = 3 ∨ j = 4 ∨ j = 5)) → I' k j = I k j := by
  obtain ⟨I', M, g0, g1, g2, g3, g4, g5, g6, g7, g8, g9⟩ := yc_pass15 (d := d) (J := J) hn hc hq hR i1 i2 i4
  have hro : ∀ h, h < 8 → -1 ≤ (I 16 h).toInt ∧ (I 16 h).toInt < (c : Int) := fun h hh => by
    have := hw.1 h hh
    rwa [yq_s_1 hh] at this
  have hrr : ∀ r, r < c → I 4 r = ca r ∧ I 5 r = mo r ∧ I 6 r = wi r ∧ (yhb (I 15 2) (Int32.ofNat r) ↔ ¬ (fun r => yq_s I 15 (16 + r)) r = 0) := fun r hrc => by
    obtain ⟨a1, a2, a3⟩ := hr r hrc
    refine ⟨a1, a2, a3, ?_⟩
    show _ ↔ ¬ yq_s I 15 (16 + r) = 0
    rw [yq_s_3 (show r < 8 by omega)]
    by_cases g : yhb (I 15 2) (Int32.ofNat r)
    · rw [yIl_T g]
      exact ⟨fun _ => by decide, fun _ => g⟩
    · rw [yIl_F g]
      exact ⟨fun z => absurd z g, fun z => absurd rfl z⟩
  have ee := (yn_eq (be := I 3 8) (il := I 15 2) hc hro hrr n hn).1
  have ec : yn_rn (I 3 8) (I 16) ca mo wi (fun r => yq_s I 15 (16 + r)) n = yNg n (I 3 8) ca mo wi (yq_s I 15) := (yrn_cg (ro := I 16) (fun i hi => (yq_s_1 hi).symm) (fun i hi => by have := hro i hi; omega) (fun r hr => rfl) (fun _ _ => ⟨rfl, rfl, rfl⟩) n hn).1
  have em := yrm_cg (be := I 3 8) (ca := ca) (mo := mo) (wi := wi) (ro := I 16) (ro' := yq_s I 15) (il := fun r => yq_s I 15 (16 + r)) (il' := fun r => yq_s I 15 (16 + r)) (Hd := yHv val ca mo wi (yq_s I 15)) (Hd' := yHv val ca mo wi (yq_s I 15)) (fun i hi => (yq_s_1 hi).symm) (fun i hi => by have := hro i hi; omega) (fun r hr => rfl) (fun _ _ => ⟨rfl, rfl, rfl⟩) (fun r h _ _ => rfl) n hn
  have hM := g8 _ (yHv_c (ca := ca) (mo := mo) (wi := wi) (s := yq_s I 15) hL (fun r hrc => by
    obtain ⟨a1, a2, a3⟩ := hr r hrc
    exact ⟨(yq_s_2 (show r < 8 by omega)).symm, a3, a2, a1⟩) yq_s_24.symm)
  have tire := yn_tire (be := I 3 8) (il := I 15 2) (ti := I 17) (M := M) (M' := yr_m (I 3 8) (I 16) ca mo wi (fun r => yq_s I 15 (16 + r)) (yHv val ca mo wi (yq_s I 15)) n) (Hd := yHv val ca mo wi (yq_s I 15)) hc hn hro hrr (fun _ _ _ _ => yHv_r) hM (fun i _ => rfl) (fun i hi => by
    have := hw.2 i hi
    rw [yq_s_2 hi] at this
    exact ⟨this.1, this.2.1⟩)
  refine ⟨I', g0, y27 (fun i hi => ?_) (fun r hr8 => ?_) (fun r hr8 => ?_) ?_ ?_ ?_, by rw [g1, ee, ec], by rw [g2, ee, ec], fun k j h1 h2 h3 h4 h5 h6 h7 => g9 k j h1 h2 h3 h4 h5 h6 h7⟩
  · rw [yNt_1 hi, yq_s_1 hi, yq_s_1 hi]
    exact g9 16 i (by decide) (by decide) (by decide) (by decide) (by decide) (by omega) (by omega)
  · by_cases g : r < c
    · rw [yNt_2 hr8 g, yq_s_2 hr8, yq_s_2 hr8, ← ec, ← em]
      show I' 17 r = _
      rw [g3 r g]
      exact (tire r hr8).1
    · rw [yNt_3 hr8 (by omega), yq_s_2 hr8, yq_s_2 hr8]
      exact g4 r (by omega)
  · rw [yNt_4 hr8, yq_s_3 hr8, yq_s_3 hr8, g9 15 2 (by decide) (by decide) (by decide) (by decide) (by decide) (by omega) (by omega)]
  · rw [yNt_24, yq_s_24, yq_s_24]
    exact g7
  · rw [yNt_25, yq_s_25, yq_s_25, g5, ee, ec]
  · rw [yNt_26, yq_s_26, yq_s_26, g6, ee, ec]
theorem yNcl15 {N : Nat} {be : Int32} {C : List Int32} (hN : N ≤ 1000) (hn : n ≤ 8) (hc : c ≤ 8) (hq : q ≤ 40) (hR : R 3 9 = 10) (hL : yLv C T n0 val) : ∀ (m v : Nat) (I : Nat → Nat → Int32), v + m = N → I 3 7 = Int32.ofNat n → I 3 6 = Int32.ofNat c → I 3 8 = be → I 10 4 = Int32.ofNat q → yv_c (I 11) q = C → (∀ r, r < c → I 4 r = ca r ∧ I 5 r = mo r ∧ I 6 r = wi r) → yq_w c (yq_s I 15) → ∃ I', qX0_passAll_15_h2 (d + 5) (Int32.ofNat N) (Int32.ofNat v) (I, J, R) = some (none, I', J, R) ∧ (∀ i, i < 27 → yq_s I' 15 i = yNN n c be ca mo wi val m (yq_s I 15) i) ∧ ∀ k j, ¬ k = 7 → ¬ k = 8 → ¬ k = 9 → ¬ k = 13 → ¬ k = 17 → ¬ (k = 3 ∧ (j = 10 ∨ j = 11)) → ¬ (k = 15 ∧ (j = 3 ∨ j = 4 ∨ j = 5)) → I' k j = I k j
  | 0, v, I, hm, i1, i2, i3, i4, i5, hr, hw => by
    have e : v = N := by omega
    subst e
    refine ⟨I, ?_, fun _ _ => rfl, fun _ _ _ _ _ _ _ _ _ => rfl⟩
    rw [qX0_passAll_15_h2_eq, if_pos (Int32.le_refl _)]
  | m + 1, v, I, hm, i1, i2, i3, i4, i5, hr, hw => by
    have a1 : Int32.ofNat v + (1 : Int32) = Int32.ofNat (v + 1) := (Int32.ofNat_add v 1).symm
    obtain ⟨I1, g0, g1, -, -, g2⟩ := yNc15 (d := d) (J := J) hn hc hq hR i1 i2 i4 (by rw [i5]; exact hL) hr hw
    have f : ∀ k j, ¬ k = 7 → ¬ k = 8 → ¬ k = 9 → ¬ k = 13 → ¬ (15 ≤ k ∧ k ≤ 17) → ¬ (k = 3 ∧ (j = 10 ∨ j = 11)) → I1 k j = I k j := fun k j h1 h2 h3 h4 h5 h6 => g2 k j h1 h2 h3 h4 (by omega) h6 (by omega)
    have e11 : I1 11 = I 11 := funext fun j => f 11 j (by decide) (by decide) (by decide) (by decide) (by decide) (by omega)
    rw [i3] at g1
    have hw1 : yq_w c (yq_s I1 15) := yq_w_cg (fun i hi => g1 i hi) (yNt_w hc hn hw)
    obtain ⟨I', k0, k1, k2⟩ := yNcl15 (be := be) hN hn hc hq hR hL m (v + 1) I1 (by omega) ((f 3 7 (by decide) (by decide) (by decide) (by decide) (by decide) (by decide)).trans i1) ((f 3 6 (by decide) (by decide) (by decide) (by decide) (by decide) (by decide)).trans i2) ((f 3 8 (by decide) (by decide) (by decide) (by decide) (by decide) (by decide)).trans i3) ((f 10 4 (by decide) (by decide) (by decide) (by decide) (by decide) (by decide)).trans i4) (by rw [e11]; exact i5) (fun r hrc => by
      rw [f 4 r (by decide) (by decide) (by decide) (by decide) (by decide) (by omega), f 5 r (by decide) (by decide) (by decide) (by decide) (by decide) (by omega), f 6 r (by decide) (by decide) (by decide) (by decide) (by decide) (by omega)]
      exact hr r hrc) hw1
    refine ⟨I', ?_, fun i hi => (k1 i hi).trans (yNN_cg hc hn (fun _ _ => ⟨rfl, rfl, rfl⟩) m _ _ g1 hw1 i hi), fun k j h1 h2 h3 h4 h5 h6 h7 => (k2 k j h1 h2 h3 h4 h5 h6 h7).trans (g2 k j h1 h2 h3 h4 h5 h6 h7)⟩
    rw [qX0_passAll_15_h2_eq, if_neg (fun z => by have := (xr_le (by omega) (by omega)).mp z; omega), g0, xb_V1, a1]
    exact k0
theorem yNca15 {N : Nat} (hN : N ≤ 1000) (hn : n ≤ 8) (hc : c ≤ 8) (hq : q ≤ 40) (hR : R 3 9 = 10) (i1 : I 3 7 = Int32.ofNat n) (i2 : I 3 6 = Int32.ofNat c) (i4 : I 10 4 = Int32.ofNat q) (hL : yLv (yv_c (I 11) q) T n0 val) (hr : ∀ r, r < c → I 4 r = ca r ∧ I 5 r = mo r ∧ I 6 r = wi r) (hw : yq_w c (yq_s I 15)) : ∃ I', xq_D xqP (d + 6) 26 [.ref 3, .ref 15, .int (Int32.ofNat N)] (I, J, R) = some (none, I', J, R) ∧ (∀ i, i < 27 → yq_s I' 15 i = yNN n c (I 3 8) ca mo wi val N (yq_s I 15) i) ∧ ∀ k j, ¬ k = 7 → ¬ k = 8 → ¬ k = 9 → ¬ k = 13 → ¬ k = 17 → ¬ (k = 3 ∧ (j = 10 ∨ j = 11)) → ¬ (k = 15 ∧ (j = 3 ∨ j = 4 ∨ j = 5)) → I' k j = I k j := by
  rw [qX0_passAll_15_eq]
  exact yNcl15 (be := I 3 8) hN hn hc hq hR hL N 0 I (by omega) i1 i2 rfl i4 rfl hr hw
end YU4C15
section YU4R95
variable {C : List Int32} {n0 n c d : Nat} {val : (Nat → Int32) → Int32} {I : Nat → Nat → Int32} {J : Nat → Nat → Int64} {R : Nat → Nat → Nat}
def yfR95 (I I' : Nat → Nat → Int32) : Prop := ∀ k j, ¬ k = 104 → ¬ k = 108 → ¬ k = 109 → ¬ (k = 94 ∧ (j = 13 ∨ j = 14 ∨ j = 15 ∨ j = 16 ∨ j = 27 ∨ j = 28)) → ¬ (k = 95 ∧ ((8 ≤ j ∧ j < 16) ∨ j = 24 ∨ j = 25 ∨ j = 26)) → I' k j = I k j
theorem yNr95 (hn : n ≤ 8) (hc : c ≤ 8) (hn0 : n0 ≤ 40) (hF : yrF 95 n c n0 I R) (hL : yLv C (yk_t I 102 n0 40) n0 val) : ∃ I' R', xq_D xqP (d + 174) 220 [.ref 94, .ref 95] (I, J, R) = some (none, I', J, R') ∧ (∀ i, i < 27 → I' 95 i = yNt n c (I 94 2) (I 98) (I 96) (I 97) val (I 95) i) ∧ I' 94 27 = (yNg n (I 94 2) (I 98) (I 96) (I 97) (I 95)).1 ∧ I' 94 28 = (yNg n (I 94 2) (I 98) (I 96) (I 97) (I 95)).2.1 ∧ yfR95 I I' ∧ ∀ k j, ¬ (k = 94 ∧ j = 12) → R' k j = R k j := by
  obtain ⟨I', R', M, g0, g1, g2, g3, g4, g5, g6, g7, g8, g9, g10⟩ := yr_go95 (d := d) (J := J) hn hc hn0 hF
  have hM := g10 _ (yHv_rr (ca := I 98) (mo := I 96) (wi := I 97) (s := I 95) hL (fun r hr => rfl) rfl)
  refine ⟨I', R', g0, y27 (fun i hi => ?_) (fun r hr8 => ?_) (fun r hr8 => ?_) ?_ ?_ ?_, g1, g2, g8, g9⟩
  · rw [yNt_1 hi]
    exact g8 95 i (by decide) (by decide) (by decide) (by omega) (by omega)
  · by_cases g : r < c
    · rw [yNt_2 hr8 g, g3 r g, hM r hr8]
      rfl
    · rw [yNt_3 hr8 (by omega)]
      exact g4 r (by omega) hr8
  · rw [yNt_4 hr8]
    exact g8 95 (16 + r) (by decide) (by decide) (by decide) (by omega) (by omega)
  · rw [yNt_24]
    exact g7
  · rw [yNt_25]
    exact g5
  · rw [yNt_26]
    exact g6
theorem yNrl95 {N : Nat} {be : Int32} {ca mo wi T : Nat → Int32} (hN : N ≤ 1000) (hn : n ≤ 8) (hc : c ≤ 8) (hn0 : n0 ≤ 40) (hL : yLv C T n0 val) : ∀ (m v : Nat) (I : Nat → Nat → Int32) (R : Nat → Nat → Nat), v + m = N → yrF 95 n c n0 I R → yk_t I 102 n0 40 = T → I 94 2 = be → I 98 = ca → I 96 = mo → I 97 = wi → yq_w c (I 95) → ∃ I' R', qX8_goNights_95_h2 (d + 174) (Int32.ofNat N) (Int32.ofNat v) (I, J, R) = some (none, I', J, R') ∧ (∀ i, i < 27 → I' 95 i = yNN n c be ca mo wi val m (I 95) i) ∧ yfR95 I I' ∧ ∀ k j, ¬ (k = 94 ∧ j = 12) → R' k j = R k j
  | 0, v, I, R, hm, hF, hT, h1, h2, h3, h4, hw => by
    have e : v = N := by omega
    subst e
    refine ⟨I, R, ?_, fun _ _ => rfl, fun _ _ _ _ _ _ _ => rfl, fun _ _ _ => rfl⟩
    rw [qX8_goNights_95_h2_eq, if_pos (Int32.le_refl _)]
  | m + 1, v, I, R, hm, hF, hT, h1, h2, h3, h4, hw => by
    have a1 : Int32.ofNat v + (1 : Int32) = Int32.ofNat (v + 1) := (Int32.ofNat_add v 1).symm
    obtain ⟨I1, R1, g0, g1, -, -, g2, g3⟩ := yNr95 (d := d) (J := J) hn hc hn0 hF (by rw [hT]; exact hL)
    have hT1 : yk_t I1 102 n0 40 = T := by
      rw [← hT]
      funext p
      unfold yk_t
      rw [g2 102 p (by decide) (by decide) (by decide) (by omega) (by omega)]
    rw [h1, h2, h3, h4] at g1
    have hw1 : yq_w c (I1 95) := yq_w_cg (fun i hi => g1 i hi) (yNt_w hc hn hw)
    obtain ⟨I', R', k0, k1, k2, k3⟩ := yNrl95 hN hn hc hn0 hL m (v + 1) I1 R1 (by omega) (yrF_cg95 hF g2 g3) hT1 ((g2 94 2 (by decide) (by decide) (by decide) (by decide) (by decide)).trans h1) ((funext fun j => g2 98 j (by decide) (by decide) (by decide) (by omega) (by omega)).trans h2) ((funext fun j => g2 96 j (by decide) (by decide) (by decide) (by omega) (by omega)).trans h3) ((funext fun j => g2 97 j (by decide) (by decide) (by decide) (by omega) (by omega)).trans h4) hw1
    refine ⟨I', R', ?_, fun i hi => (k1 i hi).trans (yNN_cg hc hn (fun _ _ => ⟨rfl, rfl, rfl⟩) m _ _ g1 hw1 i hi), fun k j h1 h2 h3 h4 h5 => (k2 k j h1 h2 h3 h4 h5).trans (g2 k j h1 h2 h3 h4 h5), fun k j h => (k3 k j h).trans (g3 k j h)⟩
    rw [qX8_goNights_95_h2_eq, if_neg (fun z => by have := (xr_le (by omega) (by omega)).mp z; omega), g0, xb_V1, a1]
    exact k0
theorem yNra95 {N : Nat} (hN : N ≤ 1000) (hn : n ≤ 8) (hc : c ≤ 8) (hn0 : n0 ≤ 40) (hF : yrF 95 n c n0 I R) (hL : yLv C (yk_t I 102 n0 40) n0 val) (hw : yq_w c (I 95)) : ∃ I' R', xq_D xqP (d + 175) 221 [.ref 94, .ref 95, .int (Int32.ofNat N)] (I, J, R) = some (none, I', J, R') ∧ (∀ i, i < 27 → I' 95 i = yNN n c (I 94 2) (I 98) (I 96) (I 97) val N (I 95) i) ∧ yfR95 I I' ∧ ∀ k j, ¬ (k = 94 ∧ j = 12) → R' k j = R k j := by
  rw [qX8_goNights_95_eq]
  exact yNrl95 hN hn hc hn0 hL N 0 I R (by omega) hF rfl rfl rfl rfl rfl hw
end YU4R95
