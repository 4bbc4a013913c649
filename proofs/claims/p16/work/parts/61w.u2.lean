/-! WHAT IS KEPT, in parts with their slots; bounds -/
def oP9 : List (Nat × Nat) := [(1, 1), (94, 8), (94, 3), (94, 47), (3, 6)]
def aP9 : List (Nat × Nat) := [(2, 80), (99, 80), (4, 8), (5, 8), (6, 8), (96, 8), (97, 8), (98, 8), (63, 2), (123, 2), (124, 2)]
set_option maxRecDepth 100000 in
theorem xP9 : xt_x oP9 aP9 = true := by decide +kernel
def oQ9 : List (Nat × Nat) := [(94, 3), (94, 47), (3, 6)]
def aQ9 : List (Nat × Nat) := [(2, 80), (99, 80), (4, 8), (5, 8), (6, 8), (96, 8), (97, 8), (98, 8), (63, 2), (123, 2), (124, 2)]
set_option maxRecDepth 100000 in
theorem xQ9 : xt_x oQ9 aQ9 = true := by decide +kernel
def oH9 : List (Nat × Nat) := [(3, 7), (3, 8), (94, 1), (94, 2)]
def aH9 : List (Nat × Nat) := []
set_option maxRecDepth 100000 in
theorem xH9 : xt_x oH9 aH9 = true := by decide +kernel
def oL9 : List (Nat × Nat) := [(10, 4), (94, 20)]
def aL9 : List (Nat × Nat) := [(11, 40), (102, 40)]
set_option maxRecDepth 100000 in
theorem xL9 : xt_x oL9 aL9 = true := by decide +kernel
def oN9 : List (Nat × Nat) := [(3, 6), (15, 2), (15, 3), (15, 4), (15, 5)]
def aN9 : List (Nat × Nat) := [(16, 8), (17, 8), (95, 27)]
set_option maxRecDepth 100000 in
theorem xN9 : xt_x oN9 aN9 = true := by decide +kernel
def oA9 : List (Nat × Nat) := [(3, 6), (24, 1), (24, 2), (94, 24), (26, 2), (26, 3), (26, 4), (26, 5), (29, 2), (29, 3), (29, 4), (29, 5), (32, 2), (32, 3), (32, 4), (32, 5), (35, 2), (35, 3), (35, 4), (35, 5), (38, 2), (38, 3), (38, 4), (38, 5), (41, 2), (41, 3), (41, 4), (41, 5), (44, 2), (44, 3), (44, 4), (44, 5), (47, 2), (47, 3), (47, 4), (47, 5), (50, 2), (50, 3), (50, 4), (50, 5), (53, 2), (53, 3), (53, 4), (53, 5), (56, 2), (56, 3), (56, 4), (56, 5), (59, 2), (59, 3), (59, 4), (59, 5)]
def aA9 : List (Nat × Nat) := [(105, 324), (27, 8), (28, 8), (30, 8), (31, 8), (33, 8), (34, 8), (36, 8), (37, 8), (39, 8), (40, 8), (42, 8), (43, 8), (45, 8), (46, 8), (48, 8), (49, 8), (51, 8), (52, 8), (54, 8), (55, 8), (57, 8), (58, 8), (60, 8), (61, 8)]
set_option maxRecDepth 100000 in
theorem xA9 : xt_x oA9 aA9 = true := by decide +kernel
def oK9 : List (Nat × Nat) := [(3, 6), (88, 2), (88, 3), (88, 4), (88, 5), (91, 2), (91, 3), (91, 4), (91, 5)]
def aK9 : List (Nat × Nat) := [(63, 2), (122, 54), (89, 8), (90, 8), (92, 8), (93, 8)]
set_option maxRecDepth 100000 in
theorem xK9 : xt_x oK9 aK9 = true := by decide +kernel
theorem yS_T {k j : Nat} (h : yS k j) : yT oP9 aP9 k j := by
  rcases h with ⟨rfl, rfl⟩ | ⟨rfl, rfl | rfl | rfl⟩ | ⟨rfl, rfl⟩ | ⟨rfl | rfl, h⟩ | ⟨rfl | rfl | rfl | rfl | rfl | rfl, h⟩ | ⟨rfl | rfl | rfl, h⟩
  · exact Or.inl (by decide)
  · exact Or.inl (by decide)
  · exact Or.inl (by decide)
  · exact Or.inl (by decide)
  · exact Or.inl (by decide)
  · exact Or.inr ⟨80, by decide, h⟩
  · exact Or.inr ⟨80, by decide, h⟩
  · exact Or.inr ⟨8, by decide, h⟩
  · exact Or.inr ⟨8, by decide, h⟩
  · exact Or.inr ⟨8, by decide, h⟩
  · exact Or.inr ⟨8, by decide, h⟩
  · exact Or.inr ⟨8, by decide, h⟩
  · exact Or.inr ⟨8, by decide, h⟩
  · exact Or.inr ⟨2, by decide, h⟩
  · exact Or.inr ⟨2, by decide, h⟩
  · exact Or.inr ⟨2, by decide, h⟩
theorem yS_Q {k j : Nat} (h : yS k j) (h1 : ¬ (k = 1 ∧ j = 1)) (h2 : ¬ (k = 94 ∧ j = 8)) : yT oQ9 aQ9 k j := by
  rcases h with ⟨rfl, rfl⟩ | ⟨rfl, rfl | rfl | rfl⟩ | ⟨rfl, rfl⟩ | ⟨rfl | rfl, h⟩ | ⟨rfl | rfl | rfl | rfl | rfl | rfl, h⟩ | ⟨rfl | rfl | rfl, h⟩
  · exact absurd ⟨rfl, rfl⟩ h1
  · exact absurd ⟨rfl, rfl⟩ h2
  · exact Or.inl (by decide)
  · exact Or.inl (by decide)
  · exact Or.inl (by decide)
  · exact Or.inr ⟨80, by decide, h⟩
  · exact Or.inr ⟨80, by decide, h⟩
  · exact Or.inr ⟨8, by decide, h⟩
  · exact Or.inr ⟨8, by decide, h⟩
  · exact Or.inr ⟨8, by decide, h⟩
  · exact Or.inr ⟨8, by decide, h⟩
  · exact Or.inr ⟨8, by decide, h⟩
  · exact Or.inr ⟨8, by decide, h⟩
  · exact Or.inr ⟨2, by decide, h⟩
  · exact Or.inr ⟨2, by decide, h⟩
  · exact Or.inr ⟨2, by decide, h⟩
section YPT
variable {I I' : Nat → Nat → Int32}
theorem yP_T (h : ∀ k j, yT oP9 aP9 k j → I' k j = I k j) (hP : yP I) : yP I' := yP_cg (fun k j hk => h k j (yS_T hk)) hP
/-- all but how long the text is -/
theorem yP_Q (h : ∀ k j, yT oQ9 aQ9 k j → I' k j = I k j) (h8 : I' 94 8 = I' 1 1) (hP : yP I) : yP I' := by
  have hP2 : yP (xq_upd (xq_upd I 1 1 (I' 1 1)) 94 8 (I' 1 1)) := by
    obtain ⟨p1, p2, p3, p4, p5⟩ := hP
    refine ⟨?_, fun i hi => ?_, ?_, fun r hr hrc => ?_, ?_, ?_, fun i hi => ?_⟩
    · unfold yP1
      rw [xu_t, xu_k (by decide), xu_t]
    · rw [xu_k (by omega), xu_k (by omega), xu_k (by omega), xu_k (by omega)]
      exact p2 i hi
    · unfold yP3
      rw [xu_j (by decide), xu_k (by decide), xu_k (by decide), xu_k (by decide)]
      exact p3
    · rw [xu_k (by decide), xu_k (by decide)] at hrc
      rw [xq_upd_n (by omega), xq_upd_n (by omega), xq_upd_n (by omega), xq_upd_n (by omega), xq_upd_n (by omega), xq_upd_n (by omega), xq_upd_n (by omega), xq_upd_n (by omega), xq_upd_n (by omega), xq_upd_n (by omega), xq_upd_n (by omega), xq_upd_n (by omega)]
      exact p4 r hr hrc
    · rw [xu_j (by decide), xu_k (by decide)]
      exact p5.1
    · rw [xu_j (by decide), xu_k (by decide), xu_j (by decide), xu_k (by decide)]
      exact p5.2.1
    · rw [xq_upd_n (by omega), xq_upd_n (by omega), xq_upd_n (by omega), xq_upd_n (by omega), xq_upd_n (by omega), xq_upd_n (by omega), xq_upd_n (by omega), xq_upd_n (by omega)]
      exact p5.2.2 i hi
  refine yP_cg (fun k j hk => ?_) hP2
  by_cases h2 : k = 94 ∧ j = 8
  · obtain ⟨rfl, rfl⟩ := h2
    rw [xu_t, h8]
  · by_cases h1 : k = 1 ∧ j = 1
    · obtain ⟨rfl, rfl⟩ := h1
      rw [xu_k (by decide), xu_t]
    · rw [xq_upd_n h2, xq_upd_n h1]
      exact h k j (yS_Q hk h1 h2)
/-- hours, beats -/
def yHb (I : Nat → Nat → Int32) : Prop := I 94 1 = I 3 7 ∧ I 94 2 = I 3 8
theorem yHb_T (h : ∀ k j, yT oH9 aH9 k j → I' k j = I k j) (hP : yHb I) : yHb I' := by
  unfold yHb at hP ⊢
  rw [h 94 1 (Or.inl (by decide)), h 94 2 (Or.inl (by decide)), h 3 7 (Or.inl (by decide)), h 3 8 (Or.inl (by decide))]
  exact hP
theorem yL_T (h : ∀ k j, yT oL9 aL9 k j → I' k j = I k j) (hP : yL I) : yL I' := yL_cg (h 10 4 (Or.inl (by decide))) (fun j hj => h 11 j (Or.inr ⟨40, by decide, hj⟩)) (h 94 20 (Or.inl (by decide))) (fun j hj => h 102 j (Or.inr ⟨40, by decide, hj⟩)) hP
theorem yN_T (h : ∀ k j, yT oN9 aN9 k j → I' k j = I k j) (hP : yN I) : yN I' := by
  refine yN_cg (h 3 6 (Or.inl (by decide))) (fun k j hk hj => ?_) (fun j h1 h2 => ?_) (fun j hj => h 95 j (Or.inr ⟨27, by decide, hj⟩)) hP
  · rcases hk with rfl | rfl
    · exact h 16 j (Or.inr ⟨8, by decide, hj⟩)
    · exact h 17 j (Or.inr ⟨8, by decide, hj⟩)
  · have : j = 2 ∨ j = 3 ∨ j = 4 ∨ j = 5 := by omega
    rcases this with rfl | rfl | rfl | rfl <;> exact h 15 _ (Or.inl (by decide))
noncomputable def yA_memb (k : Nat) : Bool := match Nat.beq ((k - 26) % 3) 0 with
  | true => decide ((k, 2) ∈ oA9) && (decide ((k, 3) ∈ oA9) && (decide ((k, 4) ∈ oA9) && decide ((k, 5) ∈ oA9)))
  | false => decide ((k, 8) ∈ aA9)
theorem yA_mem0 : zfor (fun k => Nat.ble (k + 1) 26 || yA_memb k) 62 = true := by decide +kernel
theorem yA_mem : ∀ k, k < 62 → 26 ≤ k → ((k - 26) % 3 = 0 → (k, 2) ∈ oA9 ∧ (k, 3) ∈ oA9 ∧ (k, 4) ∈ oA9 ∧ (k, 5) ∈ oA9) ∧ (¬ (k - 26) % 3 = 0 → (k, 8) ∈ aA9) := by
  intro k h1 h2
  have h := zfor_ok yA_mem0 k h1
  have h : (Nat.ble (k + 1) 26 || yA_memb k) = true := h
  rw [Bool.or_eq_true] at h
  have h := h.resolve_left (fun z => by have := Nat.le_of_ble_eq_true z; omega)
  unfold yA_memb at h
  constructor
  · intro g
    rw [g] at h
    have h : (decide ((k, 2) ∈ oA9) && (decide ((k, 3) ∈ oA9) && (decide ((k, 4) ∈ oA9) && decide ((k, 5) ∈ oA9)))) = true := h
    simp only [Bool.and_eq_true] at h
    exact ⟨of_decide_eq_true h.1, of_decide_eq_true h.2.1, of_decide_eq_true h.2.2.1, of_decide_eq_true h.2.2.2⟩
  · intro g
    have e : Nat.beq ((k - 26) % 3) 0 = false := by
      cases hb : Nat.beq ((k - 26) % 3) 0 with
      | false => rfl
      | true => exact absurd (Nat.eq_of_beq_eq_true hb) g
    rw [e] at h
    exact of_decide_eq_true h
noncomputable def yK_memb (k : Nat) : Bool := match Nat.beq ((k - 88) % 3) 0 with
  | true => decide ((k, 2) ∈ oK9) && (decide ((k, 3) ∈ oK9) && (decide ((k, 4) ∈ oK9) && decide ((k, 5) ∈ oK9)))
  | false => decide ((k, 8) ∈ aK9)
theorem yK_mem0 : zfor (fun k => Nat.ble (k + 1) 88 || yK_memb k) 94 = true := by decide +kernel
theorem yK_mem : ∀ k, k < 94 → 88 ≤ k → ((k - 88) % 3 = 0 → (k, 2) ∈ oK9 ∧ (k, 3) ∈ oK9 ∧ (k, 4) ∈ oK9 ∧ (k, 5) ∈ oK9) ∧ (¬ (k - 88) % 3 = 0 → (k, 8) ∈ aK9) := by
  intro k h1 h2
  have h := zfor_ok yK_mem0 k h1
  have h : (Nat.ble (k + 1) 88 || yK_memb k) = true := h
  rw [Bool.or_eq_true] at h
  have h := h.resolve_left (fun z => by have := Nat.le_of_ble_eq_true z; omega)
  unfold yK_memb at h
  constructor
  · intro g
    rw [g] at h
    have h : (decide ((k, 2) ∈ oK9) && (decide ((k, 3) ∈ oK9) && (decide ((k, 4) ∈ oK9) && decide ((k, 5) ∈ oK9)))) = true := h
    simp only [Bool.and_eq_true] at h
    exact ⟨of_decide_eq_true h.1, of_decide_eq_true h.2.1, of_decide_eq_true h.2.2.1, of_decide_eq_true h.2.2.2⟩
  · intro g
    have e : Nat.beq ((k - 88) % 3) 0 = false := by
      cases hb : Nat.beq ((k - 88) % 3) 0 with
      | false => rfl
      | true => exact absurd (Nat.eq_of_beq_eq_true hb) g
    rw [e] at h
    exact of_decide_eq_true h
theorem yA_T (h : ∀ k j, yT oA9 aA9 k j → I' k j = I k j) (hP : yPa I) : yPa I' := by
  refine yPa_cg (h 3 6 (Or.inl (by decide))) (h 24 1 (Or.inl (by decide))) (h 24 2 (Or.inl (by decide))) (h 94 24 (Or.inl (by decide))) (fun k j h1 h2 h3 => ?_) (fun j hj => h 105 j (Or.inr ⟨324, by decide, hj⟩)) hP
  by_cases g : (k - 26) % 3 = 0
  · have hm := (yA_mem k (by omega) h1).1 g
    rw [if_pos g] at h3
    obtain ⟨m1, m2, m3, m4⟩ := hm
    have : j = 2 ∨ j = 3 ∨ j = 4 ∨ j = 5 := by omega
    rcases this with rfl | rfl | rfl | rfl
    · exact h _ _ (Or.inl m1)
    · exact h _ _ (Or.inl m2)
    · exact h _ _ (Or.inl m3)
    · exact h _ _ (Or.inl m4)
  · have hm := (yA_mem k (by omega) h1).2 g
    rw [if_neg g] at h3
    exact h _ _ (Or.inr ⟨8, hm, h3⟩)
theorem yK_T (h : ∀ k j, yT oK9 aK9 k j → I' k j = I k j) (hP : yKe I) : yKe I' := by
  refine yKe_cg (h 3 6 (Or.inl (by decide))) (fun k hk => h 63 k (Or.inr ⟨2, by decide, hk⟩)) (fun k j h1 h2 h3 => ?_) (fun j hj => h 122 j (Or.inr ⟨54, by decide, hj⟩)) hP
  by_cases g : (k - 88) % 3 = 0
  · have hm := (yK_mem k (by omega) h1).1 g
    rw [if_pos g] at h3
    obtain ⟨m1, m2, m3, m4⟩ := hm
    have : j = 2 ∨ j = 3 ∨ j = 4 ∨ j = 5 := by omega
    rcases this with rfl | rfl | rfl | rfl
    · exact h _ _ (Or.inl m1)
    · exact h _ _ (Or.inl m2)
    · exact h _ _ (Or.inl m3)
    · exact h _ _ (Or.inl m4)
  · have hm := (yK_mem k (by omega) h1).2 g
    rw [if_neg g] at h3
    exact h _ _ (Or.inr ⟨8, hm, h3⟩)
end YPT
def yF (I : Nat → Nat → Int32) : Prop := yP I ∧ yHb I ∧ yL I ∧ yN I ∧ yPa I ∧ yKe I
set_option maxRecDepth 100000 in
theorem yBF_99 : zfor (fun i => match xz_b 99 i with
  | some q => zle (-128) q.1 && zle q.2 127
  | none => false) 80 = true := by decide +kernel
set_option maxRecDepth 100000 in
theorem yBF_95 : zfor (fun i => match xz_b 95 i with
  | some q => zle (-1) q.1 && zle q.2 7
  | none => false) 8 = true := by decide +kernel
set_option maxRecDepth 100000 in
theorem yBF_102 : zfor (fun i => match xz_b 102 i with
  | some q => zle (-128) q.1 && zle q.2 127
  | none => false) 40 = true := by decide +kernel
set_option maxRecDepth 100000 in
theorem yBF_4 : zfor (fun i => match xz_b 4 i with
  | some q => zle (0) q.1 && zle q.2 255
  | none => false) 8 = true := by decide +kernel
set_option maxRecDepth 100000 in
theorem yBF_5 : zfor (fun i => match xz_b 5 i with
  | some q => zle (0) q.1 && zle q.2 4
  | none => false) 8 = true := by decide +kernel
set_option maxRecDepth 100000 in
theorem yBF_6 : zfor (fun i => match xz_b 6 i with
  | some q => zle (0) q.1 && zle q.2 9
  | none => false) 8 = true := by decide +kernel
set_option maxRecDepth 100000 in
theorem yBF_16 : zfor (fun i => match xz_b 16 i with
  | some q => zle (-49) q.1 && zle q.2 207
  | none => false) 8 = true := by decide +kernel
set_option maxRecDepth 100000 in
theorem yBF_17 : zfor (fun i => match xz_b 17 i with
  | some q => zle (0) q.1 && zle q.2 99
  | none => false) 8 = true := by decide +kernel
set_option maxRecDepth 100000 in
theorem yBF_111 : zfor (fun i => match xz_b 111 i with
  | some q => zle (0) q.1 && zle q.2 255
  | none => false) 8 = true := by decide +kernel
set_option maxRecDepth 100000 in
theorem yBF_112 : zfor (fun i => match xz_b 112 i with
  | some q => zle (0) q.1 && zle q.2 255
  | none => false) 8 = true := by decide +kernel
theorem yB_arr {k n : Nat} {lo hi : Int} (h : zfor (fun i => match xz_b k i with
  | some q => zle lo q.1 && zle q.2 hi
  | none => false) n = true) {I : Nat → Nat → Int32} (hb : xbd I) {i : Nat} (hi9 : i < n) : yb I k i lo hi := by
  have h9 := zfor_ok h i hi9
  try dsimp only at h9
  split at h9
  · rename_i q hq
    simp only [Bool.and_eq_true, zle_iff] at h9
    obtain ⟨h1, h2⟩ := hb k i q hq
    unfold yb
    omega
  · cases h9
def yBF (I : Nat → Nat → Int32) : Prop := yBy I ∧ yb I 3 8 0 9 ∧ yb I 94 2 0 9 ∧ yb I 15 2 0 255 ∧ ∀ r, r < 8 → yb I 4 r (0) 255 ∧ yb I 5 r (0) 4 ∧ yb I 6 r (0) 9 ∧ yb I 16 r (-49) 207 ∧ yb I 17 r (0) 99 ∧ yb I 111 r (0) 255 ∧ yb I 112 r (0) 255
set_option maxRecDepth 100000 in
theorem yBF_of {I : Nat → Nat → Int32} (h : xbd I) : yBF I := ⟨⟨⟨fun i hi => yB_arr yBF_99 h hi, h 3 6 (.ofNat 0, .ofNat 8) rfl, h 94 3 (.ofNat 0, .ofNat 8) rfl, h 1 1 (.ofNat 0, .ofNat 80) rfl, h 94 8 (.ofNat 0, .ofNat 80) rfl, h 78 1 (.ofNat 0, .ofNat 8) rfl, h 94 10 (.ofNat 0, .ofNat 8) rfl⟩, h 3 7 (.ofNat 1, .ofNat 8) rfl, h 94 1 (.ofNat 1, .ofNat 8) rfl, h 10 4 (.ofNat 0, .ofNat 40) rfl, h 24 1 (.ofNat 0, .ofNat 11) rfl, h 94 20 (.ofNat 0, .ofNat 40) rfl, h 94 21 (.ofNat 0, .ofNat 0) rfl, h 94 24 (.ofNat 0, .ofNat 12) rfl, fun i hi => yB_arr yBF_95 h hi, fun i hi => yB_arr yBF_102 h hi⟩, h 3 8 (.ofNat 0, .ofNat 9) rfl, h 94 2 (.ofNat 0, .ofNat 9) rfl, h 15 2 (.ofNat 0, .ofNat 255) rfl, fun r hr => ⟨yB_arr yBF_4 h hr, yB_arr yBF_5 h hr, yB_arr yBF_6 h hr, yB_arr yBF_16 h hr, yB_arr yBF_17 h hr, yB_arr yBF_111 h hr, yB_arr yBF_112 h hr⟩⟩
