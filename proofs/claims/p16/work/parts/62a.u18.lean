/-! ACTS as steps of states -/
noncomputable def yAct (n c : Nat) (be : Int32) (ca mo wi : Nat → Int32) (val : (Nat → Int32) → Int32) (l a b : Int32) (s : Nat → Int32) : Nat → Int32 := if yaV c l a b then (if l.toInt = 103 then (fun i => if i = a.toInt.toNat then b else s i) else if l.toInt = 105 then (fun i => if i = 16 + a.toInt.toNat then 1 - s i else s i) else if l.toInt = 110 then yNN n c be ca mo wi val a.toInt.toNat s else (fun i => if i < 8 then ysw a b (s i) else s i)) else s
section YU18
variable {C : List Int32} {T : Nat → Int32} {n0 n c q d : Nat} {val : (Nat → Int32) → Int32} {ca mo wi s s' : Nat → Int32} {be l a b : Int32} {I : Nat → Nat → Int32} {J : Nat → Nat → Int64} {R : Nat → Nat → Nat}
theorem yAct_n (h : ¬ yaV c l a b) : yAct n c be ca mo wi val l a b s = s := if_neg h
theorem yAct_g (h : yaV c l a b) (h1 : l.toInt = 103) : yAct n c be ca mo wi val l a b s = fun i => if i = a.toInt.toNat then b else s i := by
  unfold yAct
  rw [if_pos h, if_pos h1]
theorem yAct_i (h : yaV c l a b) (h1 : l.toInt = 105) : yAct n c be ca mo wi val l a b s = fun i => if i = 16 + a.toInt.toNat then 1 - s i else s i := by
  unfold yAct
  rw [if_pos h, if_neg (by omega), if_pos h1]
theorem yAct_N (h : yaV c l a b) (h1 : l.toInt = 110) : yAct n c be ca mo wi val l a b s = yNN n c be ca mo wi val a.toInt.toNat s := by
  unfold yAct
  rw [if_pos h, if_neg (by omega), if_neg (by omega), if_pos h1]
theorem yAct_x (h : yaV c l a b) (h1 : ¬ l.toInt = 103) (h2 : ¬ l.toInt = 105) (h3 : ¬ l.toInt = 110) : yAct n c be ca mo wi val l a b s = fun i => if i < 8 then ysw a b (s i) else s i := by
  unfold yAct
  rw [if_pos h, if_neg h1, if_neg h2, if_neg h3]
theorem yAct_cg {ca2 mo2 wi2 : Nat → Int32} (hc : c ≤ 8) (hn : n ≤ 8) (h5 : ∀ r, r < 8 → ca r = ca2 r ∧ mo r = mo2 r ∧ wi r = wi2 r) (h : ∀ i, i < 27 → s i = s' i) (hw : yq_w c s) : ∀ i, i < 27 → yAct n c be ca mo wi val l a b s i = yAct n c be ca2 mo2 wi2 val l a b s' i := by
  intro i hi
  by_cases hv : yaV c l a b
  · by_cases h1 : l.toInt = 103
    · rw [yAct_g hv h1, yAct_g hv h1]
      show (if i = a.toInt.toNat then b else s i) = if i = a.toInt.toNat then b else s' i
      rw [h i hi]
    by_cases h2 : l.toInt = 105
    · rw [yAct_i hv h2, yAct_i hv h2]
      show (if i = 16 + a.toInt.toNat then 1 - s i else s i) = if i = 16 + a.toInt.toNat then 1 - s' i else s' i
      rw [h i hi]
    by_cases h3 : l.toInt = 110
    · rw [yAct_N hv h3, yAct_N hv h3]
      exact yNN_cg hc hn h5 _ _ _ h hw i hi
    · rw [yAct_x hv h1 h2 h3, yAct_x hv h1 h2 h3]
      show (if i < 8 then ysw a b (s i) else s i) = if i < 8 then ysw a b (s' i) else s' i
      rw [h i hi]
  · rw [yAct_n hv, yAct_n hv]
    exact h i hi
theorem yAct_w (hc : c ≤ 8) (hn : n ≤ 8) (hw : yq_w c s) : yq_w c (yAct n c be ca mo wi val l a b s) := by
  have em : (-1 : Int32).toInt = -1 := by decide
  by_cases hv : yaV c l a b
  · by_cases h1 : l.toInt = 103
    · rw [yAct_g hv h1]
      obtain ⟨g1, g2⟩ : (0 ≤ a.toInt ∧ a.toInt ≤ 7) ∧ (b = -1 ∨ (0 ≤ b.toInt ∧ b.toInt < (c : Int))) := by
        rcases hv with ⟨-, z, y⟩ | ⟨z, -⟩ | z | ⟨z, -⟩
        · exact ⟨z, y⟩
        · omega
        · omega
        · exact absurd h1 z
      refine ⟨fun i hi => ?_, fun r hr => ?_⟩
      · show -1 ≤ (if i = a.toInt.toNat then b else s i).toInt ∧ (if i = a.toInt.toNat then b else s i).toInt < (c : Int)
        by_cases e : i = a.toInt.toNat
        · rw [if_pos e]
          rcases g2 with g2 | g2
          · rw [g2]
            omega
          · omega
        · rw [if_neg e]
          exact hw.1 i hi
      · show 0 ≤ (if 8 + r = a.toInt.toNat then b else s (8 + r)).toInt ∧ (if 8 + r = a.toInt.toNat then b else s (8 + r)).toInt ≤ 99 ∧ (c ≤ r → (if 8 + r = a.toInt.toNat then b else s (8 + r)) = 0 ∧ (if 16 + r = a.toInt.toNat then b else s (16 + r)) = 0)
        rw [if_neg (show ¬ 8 + r = a.toInt.toNat by omega), if_neg (show ¬ 16 + r = a.toInt.toNat by omega)]
        exact hw.2 r hr
    by_cases h2 : l.toInt = 105
    · rw [yAct_i hv h2]
      have g1 : 0 ≤ a.toInt ∧ a.toInt < (c : Int) := by
        rcases hv with ⟨z, -⟩ | ⟨-, z⟩ | z | ⟨-, z, -⟩
        · exact absurd z h1
        · exact z
        · omega
        · exact absurd h2 z
      refine ⟨fun i hi => ?_, fun r hr => ?_⟩
      · show -1 ≤ (if i = 16 + a.toInt.toNat then 1 - s i else s i).toInt ∧ (if i = 16 + a.toInt.toNat then 1 - s i else s i).toInt < (c : Int)
        rw [if_neg (by omega)]
        exact hw.1 i hi
      · show 0 ≤ (if 8 + r = 16 + a.toInt.toNat then 1 - s (8 + r) else s (8 + r)).toInt ∧ (if 8 + r = 16 + a.toInt.toNat then 1 - s (8 + r) else s (8 + r)).toInt ≤ 99 ∧ (c ≤ r → (if 8 + r = 16 + a.toInt.toNat then 1 - s (8 + r) else s (8 + r)) = 0 ∧ (if 16 + r = 16 + a.toInt.toNat then 1 - s (16 + r) else s (16 + r)) = 0)
        rw [if_neg (show ¬ 8 + r = 16 + a.toInt.toNat by omega)]
        obtain ⟨w1, w2, w3⟩ := hw.2 r hr
        refine ⟨w1, w2, fun z => ⟨(w3 z).1, ?_⟩⟩
        rw [if_neg (by omega)]
        exact (w3 z).2
    by_cases h3 : l.toInt = 110
    · rw [yAct_N hv h3]
      exact yNN_w hc hn _ _ hw
    · rw [yAct_x hv h1 h2 h3]
      obtain ⟨g1, g2⟩ : (0 ≤ a.toInt ∧ a.toInt < (c : Int)) ∧ (0 ≤ b.toInt ∧ b.toInt < (c : Int)) := by
        rcases hv with ⟨z, -⟩ | ⟨z, -⟩ | z | ⟨-, -, -, z, y, -⟩
        · exact absurd z h1
        · exact absurd z h2
        · exact absurd z h3
        · exact ⟨z, y⟩
      refine ⟨fun i hi => ?_, fun r hr => ?_⟩
      · show -1 ≤ (if i < 8 then ysw a b (s i) else s i).toInt ∧ (if i < 8 then ysw a b (s i) else s i).toInt < (c : Int)
        rw [if_pos hi]
        have := hw.1 i hi
        unfold ysw
        by_cases w1 : s i = a
        · rw [if_pos w1]; omega
        · rw [if_neg w1]
          by_cases w2 : s i = b
          · rw [if_pos w2]; omega
          · rw [if_neg w2]; exact this
      · show 0 ≤ (if 8 + r < 8 then ysw a b (s (8 + r)) else s (8 + r)).toInt ∧ (if 8 + r < 8 then ysw a b (s (8 + r)) else s (8 + r)).toInt ≤ 99 ∧ (c ≤ r → (if 8 + r < 8 then ysw a b (s (8 + r)) else s (8 + r)) = 0 ∧ (if 16 + r < 8 then ysw a b (s (16 + r)) else s (16 + r)) = 0)
        rw [if_neg (show ¬ 8 + r < 8 by omega), if_neg (show ¬ 16 + r < 8 by omega)]
        exact hw.2 r hr
  · rw [yAct_n hv]
    exact hw
end YU18
