/-! STATES of both alike -/
/-- a state of the class, as the reference has it: eight hours, eight TIRED, eight ill, nights, gaps, ridden -/
def yq_s (I : Nat → Nat → Int32) (kf i : Nat) : Int32 := if i < 8 then I (kf + 1) i else if i < 16 then I (kf + 2) (i - 8) else if i < 24 then (if ((I kf 2 >>> (Int32.ofNat (i - 16) &&& 31)) &&& (1 : Int32)) = (1 : Int32) then 1 else 0) else I kf (i - 21)
theorem yq_s_cg {I I' : Nat → Nat → Int32} {kf kf' : Nat} (h1 : ∀ j, j < 8 → I' (kf' + 1) j = I (kf + 1) j ∧ I' (kf' + 2) j = I (kf + 2) j) (h2 : ∀ j, 2 ≤ j → j ≤ 5 → I' kf' j = I kf j) {i : Nat} (hi : i < 27) : yq_s I' kf' i = yq_s I kf i := by
  unfold yq_s
  by_cases a : i < 8
  · rw [if_pos a, if_pos a, (h1 i a).1]
  rw [if_neg a, if_neg a]
  by_cases b : i < 16
  · rw [if_pos b, if_pos b, (h1 (i - 8) (by omega)).2]
  rw [if_neg b, if_neg b, h2 2 (by omega) (by omega)]
  by_cases e : i < 24
  · rw [if_pos e, if_pos e]
  · rw [if_neg e, if_neg e, h2 (i - 21) (by omega) (by omega)]
theorem yq_s_cp {I : Nat → Nat → Int32} {t f i : Nat} (hi : i < 27) : yq_s (yq_cp I t f) t i = yq_s I f i := by
  refine yq_s_cg (fun j hj => ⟨?_, ?_⟩) (fun j h1 h2 => ?_) hi
  · unfold yq_cp
    rw [if_pos ⟨rfl, hj⟩]
  · unfold yq_cp
    rw [if_neg (by omega), if_pos ⟨rfl, hj⟩]
  · unfold yq_cp
    rw [if_neg (by omega), if_neg (by omega), if_pos ⟨rfl, h1, h2⟩]
theorem yq_s_cpn {I : Nat → Nat → Int32} {t f k i : Nat} (hk : k + 2 < t ∨ t + 2 < k) (hi : i < 27) : yq_s (yq_cp I t f) k i = yq_s I k i := yq_s_cg (fun j hj => ⟨yq_cpn (by omega), yq_cpn (by omega)⟩) (fun j h1 h2 => yq_cpn (by omega)) hi
/-- who rides is of the crew, nobody behind it is tired -/
def yq_w (c : Nat) (s : Nat → Int32) : Prop := (∀ i, i < 8 → -1 ≤ (s i).toInt ∧ (s i).toInt < (c : Int)) ∧ ∀ r, r < 8 → 0 ≤ (s (8 + r)).toInt ∧ (s (8 + r)).toInt ≤ 99 ∧ (c ≤ r → s (8 + r) = 0 ∧ s (16 + r) = 0)
theorem yq_w_up {c c' : Nat} {s : Nat → Int32} (h : c ≤ c') (hw : yq_w c s) : yq_w c' s := ⟨fun i hi => by have := hw.1 i hi; omega, fun r hr => ⟨(hw.2 r hr).1, (hw.2 r hr).2.1, fun z => (hw.2 r hr).2.2 (by omega)⟩⟩
theorem yq_w_cg {c : Nat} {s s' : Nat → Int32} (h : ∀ i, i < 27 → s' i = s i) (hw : yq_w c s) : yq_w c s' := ⟨fun i hi => by rw [h i (by omega)]; exact hw.1 i hi, fun r hr => by rw [h (8 + r) (by omega), h (16 + r) (by omega)]; exact hw.2 r hr⟩
/-- now -/
def yN (I : Nat → Nat → Int32) : Prop := ∃ c, I 3 6 = Int32.ofNat c ∧ c ≤ 8 ∧ (∀ i, i < 27 → I 95 i = yq_s I 15 i) ∧ yq_w c (I 95)
/-- what undo() brings back -/
def yPa (I : Nat → Nat → Int32) : Prop := ∃ c nx sz, I 3 6 = Int32.ofNat c ∧ c ≤ 8 ∧ I 24 1 = Int32.ofNat nx ∧ nx < 12 ∧ I 24 2 = Int32.ofNat sz ∧ sz ≤ 12 ∧ I 94 24 = Int32.ofNat sz ∧ ∀ j, j < sz → (∀ i, i < 27 → I 105 (27 * j + i) = yq_s I (26 + 3 * ((nx + 12 - sz + j) % 12)) i) ∧ yq_w c (fun i => I 105 (27 * j + i))
/-- what again() brings back -/
def yKe (I : Nat → Nat → Int32) : Prop := ∃ c, I 3 6 = Int32.ofNat c ∧ c ≤ 8 ∧ ∀ k, k < 2 → ¬ I 63 k = 0 → (∀ i, i < 27 → I 122 (27 * k + i) = yq_s I (88 + 3 * k) i) ∧ yq_w c (fun i => I 122 (27 * k + i))
theorem yq_push_ok {I I2 : Nat → Nat → Int32} {c nx sz kf : Nat} {src : Nat → Int32} (h36 : I 3 6 = Int32.ofNat c) (hc : c ≤ 8) (hn : I 24 1 = Int32.ofNat nx) (hnx : nx < 12) (hs : I 24 2 = Int32.ofNat sz) (hsz : sz ≤ 12) (hpa : ∀ j, j < sz → (∀ i, i < 27 → I 105 (27 * j + i) = yq_s I (26 + 3 * ((nx + 12 - sz + j) % 12)) i) ∧ yq_w c (fun i => I 105 (27 * j + i))) (hkf : kf ≤ 18) (hsrc : ∀ i, i < 27 → src i = yq_s I kf i) (hw : yq_w c src) (g36 : I2 3 6 = I 3 6) (g1 : I2 24 1 = Int32.ofNat ((nx + 1) % 12)) (g2 : I2 24 2 = Int32.ofNat (if sz = 12 then 12 else sz + 1)) (g3 : I2 94 24 = Int32.ofNat (if sz = 12 then 12 else sz + 1)) (g4 : ∀ k j, 26 ≤ k → k ≤ 61 → (if (k - 26) % 3 = 0 then 2 ≤ j ∧ j ≤ 5 else j < 8) → I2 k j = yq_cp I (26 + 3 * nx) kf k j) (g5 : ∀ j, j < (if sz = 12 then 12 else sz + 1) → ∀ i, i < 27 → I2 105 (27 * j + i) = if j = (if sz = 12 then 12 else sz + 1) - 1 then src i else I 105 (27 * (if sz = 12 then j + 1 else j) + i)) : yPa I2 := by
  refine ⟨c, (nx + 1) % 12, if sz = 12 then 12 else sz + 1, g36.trans h36, hc, g1, by omega, g2, by split <;> omega, g3, fun j hj => ?_⟩
  have h5 := g5 j hj
  have gs : ∀ q i, q < 12 → i < 27 → yq_s I2 (26 + 3 * q) i = yq_s (yq_cp I (26 + 3 * nx) kf) (26 + 3 * q) i := fun q i hq hi => yq_s_cg (fun j hj => ⟨g4 _ _ (by omega) (by omega) (by rw [if_neg (by omega)]; exact hj), g4 _ _ (by omega) (by omega) (by rw [if_neg (by omega)]; exact hj)⟩) (fun j h1 h2 => g4 _ _ (by omega) (by omega) (by rw [if_pos (by omega)]; exact ⟨h1, h2⟩)) hi
  by_cases e : j = (if sz = 12 then 12 else sz + 1) - 1
  · have h5' : ∀ i, i < 27 → I2 105 (27 * j + i) = src i := fun i hi => by rw [h5 i hi, if_pos e]
    have ei : ((nx + 1) % 12 + 12 - (if sz = 12 then 12 else sz + 1) + j) % 12 = nx := by
      by_cases q : sz = 12
      · rw [if_pos q] at e ⊢
        omega
      · rw [if_neg q] at e ⊢
        omega
    refine ⟨fun i hi => ?_, yq_w_cg (fun i hi => h5' i hi) hw⟩
    rw [h5' i hi, ei, gs nx i hnx hi, yq_s_cp hi, hsrc i hi]
  · have h5' : ∀ i, i < 27 → I2 105 (27 * j + i) = I 105 (27 * (if sz = 12 then j + 1 else j) + i) := fun i hi => by rw [h5 i hi, if_neg e]
    have hj2 : (if sz = 12 then j + 1 else j) < sz := by
      by_cases q : sz = 12
      · rw [if_pos q] at e hj ⊢
        omega
      · rw [if_neg q] at e hj ⊢
        omega
    have ei : ((nx + 1) % 12 + 12 - (if sz = 12 then 12 else sz + 1) + j) % 12 = (nx + 12 - sz + (if sz = 12 then j + 1 else j)) % 12 := by
      by_cases q : sz = 12
      · rw [if_pos q, if_pos q] 
        omega
      · rw [if_neg q, if_neg q]
        rw [if_neg q] at hj hj2
        omega
    have en : ¬ (nx + 12 - sz + (if sz = 12 then j + 1 else j)) % 12 = nx := by
      by_cases q : sz = 12
      · rw [if_pos q] at hj2 ⊢
        omega
      · rw [if_neg q] at hj2 ⊢
        omega
    obtain ⟨p1, p2⟩ := hpa _ hj2
    refine ⟨fun i hi => ?_, yq_w_cg (fun i hi => h5' i hi) p2⟩
    rw [h5' i hi, p1 i hi, ei, gs _ i (by omega) hi, yq_s_cpn (by omega) hi]
theorem yq_pop_ok {I I2 : Nat → Nat → Int32} {c nx sz : Nat} (h36 : I 3 6 = Int32.ofNat c) (hc : c ≤ 8) (hnx : nx < 12) (hsz : sz ≤ 12) (h0 : 0 < sz) (hpa : ∀ j, j < sz → (∀ i, i < 27 → I 105 (27 * j + i) = yq_s I (26 + 3 * ((nx + 12 - sz + j) % 12)) i) ∧ yq_w c (fun i => I 105 (27 * j + i))) (g36 : I2 3 6 = I 3 6) (g1 : I2 24 1 = Int32.ofNat ((nx + 11) % 12)) (g2 : I2 24 2 = Int32.ofNat (sz - 1)) (g3 : I2 94 24 = Int32.ofNat (sz - 1)) (g4 : ∀ k j, 26 ≤ k → k ≤ 61 → (if (k - 26) % 3 = 0 then 2 ≤ j ∧ j ≤ 5 else j < 8) → I2 k j = I k j) (g5 : ∀ j, j < 324 → I2 105 j = I 105 j) (g6 : ∀ k j, 15 ≤ k → k ≤ 17 → (if k = 15 then 2 ≤ j ∧ j ≤ 5 else j < 8) → I2 k j = yq_cp I 15 (26 + 3 * ((nx + 11) % 12)) k j) (g7 : ∀ i, i < 27 → I2 95 i = I 105 (27 * (sz - 1) + i)) : yPa I2 ∧ yN I2 := by
  refine ⟨⟨c, (nx + 11) % 12, sz - 1, g36.trans h36, hc, g1, by omega, g2, by omega, g3, fun j hj => ?_⟩, c, g36.trans h36, hc, fun i hi => ?_, ?_⟩
  · obtain ⟨p1, p2⟩ := hpa j (by omega)
    have ei : ((nx + 11) % 12 + 12 - (sz - 1) + j) % 12 = (nx + 12 - sz + j) % 12 := by omega
    refine ⟨fun i hi => ?_, yq_w_cg (fun i hi => g5 _ (by omega)) p2⟩
    rw [g5 _ (by omega), p1 i hi, ei]
    exact (yq_s_cg (fun j hj => ⟨g4 _ _ (by omega) (by omega) (by rw [if_neg (by omega)]; exact hj), g4 _ _ (by omega) (by omega) (by rw [if_neg (by omega)]; exact hj)⟩) (fun j h1 h2 => g4 _ _ (by omega) (by omega) (by rw [if_pos (by omega)]; exact ⟨h1, h2⟩)) hi).symm
  · obtain ⟨p1, -⟩ := hpa (sz - 1) (by omega)
    have ei : (nx + 12 - sz + (sz - 1)) % 12 = (nx + 11) % 12 := by omega
    rw [g7 i hi, p1 i hi, ei]
    rw [yq_s_cg (I := yq_cp I 15 (26 + 3 * ((nx + 11) % 12))) (I' := I2) (kf := 15) (kf' := 15) (fun j hj => ⟨g6 _ _ (by omega) (by omega) (by rw [if_neg (by omega)]; exact hj), g6 _ _ (by omega) (by omega) (by rw [if_neg (by omega)]; exact hj)⟩) (fun j h1 h2 => g6 _ _ (by omega) (by omega) (by rw [if_pos rfl]; exact ⟨h1, h2⟩)) hi, yq_s_cp hi]
  · obtain ⟨-, p2⟩ := hpa (sz - 1) (by omega)
    exact yq_w_cg (fun i hi => g7 i hi) p2
/-- parts of it that are not touched -/
theorem yN_cg {I I' : Nat → Nat → Int32} (h1 : I' 3 6 = I 3 6) (h2 : ∀ k j, (k = 16 ∨ k = 17) → j < 8 → I' k j = I k j) (h3 : ∀ j, 2 ≤ j → j ≤ 5 → I' 15 j = I 15 j) (h4 : ∀ j, j < 27 → I' 95 j = I 95 j) (h : yN I) : yN I' := by
  obtain ⟨c, g1, g2, g3, g4⟩ := h
  refine ⟨c, h1.trans g1, g2, fun i hi => ?_, yq_w_cg (fun i hi => h4 i hi) g4⟩
  rw [h4 i hi, g3 i hi]
  exact (yq_s_cg (fun j hj => ⟨h2 _ _ (Or.inl rfl) hj, h2 _ _ (Or.inr rfl) hj⟩) h3 hi).symm
theorem yPa_cg {I I' : Nat → Nat → Int32} (h1 : I' 3 6 = I 3 6) (h2 : I' 24 1 = I 24 1) (h3 : I' 24 2 = I 24 2) (h4 : I' 94 24 = I 94 24) (h5 : ∀ k j, 26 ≤ k → k ≤ 61 → (if (k - 26) % 3 = 0 then 2 ≤ j ∧ j ≤ 5 else j < 8) → I' k j = I k j) (h6 : ∀ j, j < 324 → I' 105 j = I 105 j) (h : yPa I) : yPa I' := by
  obtain ⟨c, nx, sz, g1, g2, g3, g4, g5, g6, g7, g8⟩ := h
  refine ⟨c, nx, sz, h1.trans g1, g2, h2.trans g3, g4, h3.trans g5, g6, h4.trans g7, fun j hj => ?_⟩
  obtain ⟨p1, p2⟩ := g8 j hj
  refine ⟨fun i hi => ?_, yq_w_cg (fun i hi => h6 _ (by omega)) p2⟩
  rw [h6 _ (by omega), p1 i hi]
  refine (yq_s_cg (fun j hj => ⟨h5 _ _ (by omega) (by omega) ?_, h5 _ _ (by omega) (by omega) ?_⟩) (fun j a1 a2 => h5 _ _ (by omega) (by omega) ?_) hi).symm
  · rw [if_neg (by omega)]
    exact hj
  · rw [if_neg (by omega)]
    exact hj
  · rw [if_pos (by omega)]
    exact ⟨a1, a2⟩
theorem yKe_cg {I I' : Nat → Nat → Int32} (h1 : I' 3 6 = I 3 6) (h2 : ∀ k, k < 2 → I' 63 k = I 63 k) (h3 : ∀ k j, 88 ≤ k → k ≤ 93 → (if (k - 88) % 3 = 0 then 2 ≤ j ∧ j ≤ 5 else j < 8) → I' k j = I k j) (h4 : ∀ j, j < 54 → I' 122 j = I 122 j) (h : yKe I) : yKe I' := by
  obtain ⟨c, g1, g2, g3⟩ := h
  refine ⟨c, h1.trans g1, g2, fun k hk hf => ?_⟩
  rw [h2 k hk] at hf
  obtain ⟨p1, p2⟩ := g3 k hk hf
  refine ⟨fun i hi => ?_, yq_w_cg (fun i hi => h4 _ (by omega)) p2⟩
  rw [h4 _ (by omega), p1 i hi]
  refine (yq_s_cg (fun j hj => ⟨h3 _ _ (by omega) (by omega) ?_, h3 _ _ (by omega) (by omega) ?_⟩) (fun j a1 a2 => h3 _ _ (by omega) (by omega) ?_) hi).symm
  · rw [if_neg (by omega)]
    exact hj
  · rw [if_neg (by omega)]
    exact hj
  · rw [if_pos (by omega)]
    exact ⟨a1, a2⟩
