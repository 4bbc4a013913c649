/-! A YEAR: its signs, the reference -/
def yaA (I : Nat → Nat → Int32) (T : Nat → Int32) (k p : Nat) : Prop := I 110 (3 * k) = T p ∧ I 110 (3 * k + 1) = T (p + 1) - 48 ∧ (yaL (T p) = 3 → I 110 (3 * k + 2) = if T (p + 2) = 45 then -1 else T (p + 2) - 48)
theorem pI110 {I : Nat → Nat → Int32} {p j : Nat} {w v : Int32} : xq_upd (pI I p w) 110 j v = pI (xq_upd I 110 j v) p w := by
  funext k i
  unfold pI xe_I xq_upd
  by_cases h : k = 110 ∧ i = j
  · obtain ⟨rfl, rfl⟩ := h
    simp
  · by_cases h1 : k = 94 ∧ i = 15
    · obtain ⟨rfl, rfl⟩ := h1
      simp
    · by_cases h2 : k = 94 ∧ i = 16
      · obtain ⟨rfl, rfl⟩ := h2
        simp
      · by_cases h3 : k = 101
        · subst h3
          simp
        · simp [h, h1, h2, h3]
section YYB
variable {d n0 : Nat} {I : Nat → Nat → Int32} {J : Nat → Nat → Int64} {R : Nat → Nat → Nat} {l x : Int32} {S : xq_S}
theorem yk_Hcg {I' : Nat → Nat → Int32} (h : yk_H I R 99 n0 60) (h1 : ∀ a b, ¬ a = 110 → I' a b = I a b) : yk_H I' R 99 n0 60 := by
  obtain ⟨g1, g2, g3, g4, g5, g6⟩ := h
  exact ⟨g1, g2, (h1 94 13 (by decide)).trans g3, (h1 94 14 (by decide)).trans g4, g5, fun i hi => by rw [h1 99 i (by decide)]; exact g6 i hi⟩
theorem yk_tcg {I' : Nat → Nat → Int32} (h1 : ∀ a b, ¬ a = 110 → I' a b = I a b) : yk_t I' 99 n0 60 = yk_t I 99 n0 60 := by
  funext p
  unfold yk_t
  rw [h1 99 p (by decide)]
theorem pI_15 {p : Nat} {w : Int32} : pI I p w 94 15 = Int32.ofNat p := rfl
theorem pI_16 {p : Nat} {w : Int32} : pI I p w 94 16 = w := rfl
theorem yr_in {p : Nat} {T : Nat → Int32} (hT : T = yk_t I 99 n0 60) (h : ¬ T p = -1) : p < n0 ∧ p < 60 := by
  refine Decidable.byContradiction fun z => h ?_
  rw [hT]
  exact if_neg z
/-- a digit -/
theorem yr_dig {p : Nat} {T : Nat → Int32} (hT : T = yk_t I 99 n0 60) (h : yk_H I R 99 n0 60) (hp : p < 80) : xq_D xqP (d + 3) 260 [.ref 94, .int 48, .int 10] (pI I p (-1), J, R) = if yaD (T p) then some (some (.int (T p - 48)), pI I (p + 1) (-1), J, R) else some (some (.int 0), pI I p (Int32.ofNat p), J, R) := by
  rw [yk_one h hp (by decide) (by decide), hT]
  rfl
theorem yr_act {p k : Nat} {T : Nat → Int32} (hT : T = yk_t I 99 n0 60) (h : yk_H I R 99 n0 60) (hp : p ≤ 60) (hk : k ≤ 60) : ∃ (I' : Nat → Nat → Int32) (p' : Nat) (w' : Int32), xq_D xqP (d + 4) 266 [.ref 94, .int (Int32.ofNat (3 * k))] (pI I p (-1), J, R) = some (none, pI I' p' w', J, R) ∧ (∀ a b, ¬ a = 110 → I' a b = I a b) ∧ (∀ b, b < 3 * k → I' 110 b = I 110 b) ∧ ((∃ q, yaf T p = .inl q ∧ w' = Int32.ofNat q ∧ q ≤ 80) ∨ (yaf T p = .inr p' ∧ w' = -1 ∧ p' ≤ 60 ∧ p + 2 ≤ p' ∧ p' = p + yaL (T p) ∧ yaA I' T k p)) := by
  have e0 : (Int32.ofNat (3 * k)).toInt.toNat = 3 * k := by
    have := xt_nat (n := 3 * k) (by omega)
    omega
  have e0' := xt_nat (n := 3 * k) (by omega)
  have a1 : Int32.ofNat (3 * k) + (1 : Int32) = Int32.ofNat (3 * k + 1) := (Int32.ofNat_add (3 * k) 1).symm
  have a2 : Int32.ofNat (3 * k) + (2 : Int32) = Int32.ofNat (3 * k + 2) := (Int32.ofNat_add (3 * k) 2).symm
  have e1 : (Int32.ofNat (3 * k + 1)).toInt.toNat = 3 * k + 1 := by
    have := xt_nat (n := 3 * k + 1) (by omega)
    omega
  have e1' := xt_nat (n := 3 * k + 1) (by omega)
  have e2 : (Int32.ofNat (3 * k + 2)).toInt.toNat = 3 * k + 2 := by
    have := xt_nat (n := 3 * k + 2) (by omega)
    omega
  have e2' := xt_nat (n := 3 * k + 2) (by omega)
  have ap : Int32.ofNat p + (1 : Int32) = Int32.ofNat (p + 1) := (Int32.ofNat_add p 1).symm
  rw [qX8_readAct_eq, yk_here h (by omega), xb_I1, ← hT]
  by_cases hL : yaL (T p) = 1
  · have n103 : ¬ T p = (103 : Int32) := fun z => by rw [z] at hL; revert hL; decide
    have n105 : ¬ T p = (105 : Int32) := fun z => by rw [z] at hL; revert hL; decide
    have n110 : ¬ T p = (110 : Int32) := fun z => by rw [z] at hL; revert hL; decide
    have n120 : ¬ T p = (120 : Int32) := fun z => by rw [z] at hL; revert hL; decide
    rw [if_neg n110, if_neg n105, if_neg n103, if_neg n120, show ((pI I p (-1), J, R) : xq_S).1 94 15 = Int32.ofNat p from rfl, yk_fault, xb_V1, if_pos rfl]
    refine ⟨I, p, Int32.ofNat p, rfl, fun _ _ _ => rfl, fun _ _ => rfl, Or.inl ⟨p, ?_, rfl, by omega⟩⟩
    unfold yaf
    rw [if_pos hL]
  · have hne : ¬ T p = -1 := fun z => by rw [z] at hL; revert hL; decide
    have hin := yr_in hT hne
    have key : ∃ (I' : Nat → Nat → Int32) (p' : Nat) (w' : Int32), qX8_readAct_h38 (d + 3) (Int32.ofNat (3 * k)) (T p) (pI I p (-1), J, R) = some (none, pI I' p' w', J, R) ∧ (∀ a b, ¬ a = 110 → I' a b = I a b) ∧ (∀ b, b < 3 * k → I' 110 b = I 110 b) ∧ ((∃ q, yaf T p = .inl q ∧ w' = Int32.ofNat q ∧ q ≤ 80) ∨ (yaf T p = .inr p' ∧ w' = -1 ∧ p' ≤ 60 ∧ p + 2 ≤ p' ∧ p' = p + yaL (T p) ∧ yaA I' T k p)) := by
      rw [qX8_readAct_h38_eq, e0, e0', if_pos (by omega)]
      show ∃ (I' : Nat → Nat → Int32) (p' : Nat) (w' : Int32), xq_bI (xq_D xqP (d + 3) 260 [.ref 94, .int 48, .int 10] (xq_upd (xq_upd (pI I p (-1)) 94 15 (Int32.ofNat p + 1)) 110 (3 * k) (T p), J, R)) _ = _ ∧ _
      rw [ap, pI15, pI110]
      generalize hI1 : xq_upd I 110 (3 * k) (T p) = I1
      have f1 : ∀ a b, ¬ a = 110 → I1 a b = I a b := fun a b h => by rw [← hI1, xu_k h]
      have f1a : ∀ b, b < 3 * k → I1 110 b = I 110 b := fun b hb => by rw [← hI1, xq_upd_n (by omega)]
      have f1b : I1 110 (3 * k) = T p := by rw [← hI1, xu_t]
      have hT1 : T = yk_t I1 99 n0 60 := hT.trans (yk_tcg f1).symm
      have hH1 := yk_Hcg h f1
      rw [yr_dig (d := d) hT1 hH1 (by omega)]
      by_cases hd : yaD (T (p + 1))
      · rw [if_pos hd, xb_I1, a1, e1, e1', if_pos (by omega)]
        show ∃ (I' : Nat → Nat → Int32) (p' : Nat) (w' : Int32), (if ¬ T p = (103 : Int32) then (if ¬ T p = (120 : Int32) then some (none, xq_upd (pI I1 (p + 1 + 1) (-1)) 110 (3 * k + 1) (T (p + 1) - 48), J, R) else xq_bI (xq_D xqP (d + 3) 260 [.ref 94, .int 48, .int 10] (xq_upd (pI I1 (p + 1 + 1) (-1)) 110 (3 * k + 1) (T (p + 1) - 48), J, R)) _) else xq_bI (xq_D xqP (d + 3) 263 [.ref 94, .int 45] (xq_upd (pI I1 (p + 1 + 1) (-1)) 110 (3 * k + 1) (T (p + 1) - 48), J, R)) _) = _ ∧ _
        rw [pI110]
        generalize hI2 : xq_upd I1 110 (3 * k + 1) (T (p + 1) - 48) = I2
        have f2 : ∀ a b, ¬ a = 110 → I2 a b = I a b := fun a b h => by rw [← hI2, xu_k h]; exact f1 a b h
        have f2a : ∀ b, b < 3 * k → I2 110 b = I 110 b := fun b hb => by rw [← hI2, xq_upd_n (by omega)]; exact f1a b hb
        have f2b : I2 110 (3 * k) = T p := by rw [← hI2, xq_upd_n (by omega)]; exact f1b
        have f2c : I2 110 (3 * k + 1) = T (p + 1) - 48 := by rw [← hI2, xu_t]
        have hT2 : T = yk_t I2 99 n0 60 := hT.trans (yk_tcg f2).symm
        have hH2 := yk_Hcg h f2
        have hin1 := yr_in (p := p + 1) hT (fun z => by rw [z] at hd; revert hd; decide)
        have three : ∀ v : Int32, v = (if T (p + 2) = 45 then -1 else T (p + 2) - 48) → ¬ T (p + 2) = -1 → yaE (T p) (T (p + 2)) → yaL (T p) = 3 → (∀ a b, ¬ a = 110 → (xq_upd I2 110 (3 * k + 2) v) a b = I a b) ∧ (∀ b, b < 3 * k → (xq_upd I2 110 (3 * k + 2) v) 110 b = I 110 b) ∧ ((∃ q, yaf T p = .inl q ∧ (-1 : Int32) = Int32.ofNat q ∧ q ≤ 80) ∨ (yaf T p = .inr (p + 1 + 1 + 1) ∧ (-1 : Int32) = -1 ∧ p + 1 + 1 + 1 ≤ 60 ∧ p + 2 ≤ p + 1 + 1 + 1 ∧ p + 1 + 1 + 1 = p + yaL (T p) ∧ yaA (xq_upd I2 110 (3 * k + 2) v) T k p)) := by
          intro v hv h2 h3 h4
          have hin2 := yr_in (p := p + 2) hT h2
          refine ⟨fun a b h => by rw [xu_k h]; exact f2 a b h, fun b hb => by rw [xq_upd_n (by omega)]; exact f2a b hb, Or.inr ⟨?_, rfl, by omega, by omega, by omega, ?_, ?_, fun _ => ?_⟩⟩
          · unfold yaf
            rw [if_neg hL, if_neg (fun z => z hd), if_neg (by omega), if_neg (fun z => z h3)]
          · rw [xq_upd_n (by omega)]
            exact f2b
          · rw [xq_upd_n (by omega)]
            exact f2c
          · rw [xu_t, hv]
        have bad : ¬ yaE (T p) (T (p + 2)) → yaL (T p) = 3 → yaf T p = .inl (p + 2) := by
          intro h3 h4
          unfold yaf
          rw [if_neg hL, if_neg (fun z => z hd), if_neg (by omega), if_pos h3]
        by_cases hg : T p = (103 : Int32)
        · have hL3 : yaL (T p) = 3 := by rw [hg]; rfl
          rw [if_neg (fun z => z hg), yk_pass hH2 (by omega), ← hT2]
          by_cases h45 : T (p + 2) = (45 : Int32)
          · rw [if_pos h45, xb_I1, if_neg (by decide), a2, qX8_readAct_h105_eq, e2, e2', if_pos (by omega), if_pos (by rw [hg]; decide)]
            obtain ⟨t1, t2, t3⟩ := three (-1) (by rw [if_pos h45]) (by rw [h45]; decide) (Or.inr ⟨yi103.mp hg, yi45.mp h45⟩) hL3
            refine ⟨xq_upd I2 110 (3 * k + 2) (-1), p + 1 + 1 + 1, -1, ?_, t1, t2, t3⟩
            show some (none, xq_upd (pI I2 (p + 1 + 1 + 1) (-1)) 110 (3 * k + 2) (-1), J, R) = _
            rw [pI110]
          · rw [if_neg h45, xb_I1, if_pos rfl, yr_dig (d := d) hT2 hH2 (by omega)]
            by_cases hd2 : yaD (T (p + 2))
            · rw [if_pos hd2, xb_I1, a2, qX8_readAct_h105_eq, e2, e2', if_pos (by omega), if_pos (by rw [hg]; decide)]
              obtain ⟨t1, t2, t3⟩ := three (T (p + 2) - 48) (by rw [if_neg h45]) (fun z => by rw [z] at hd2; revert hd2; decide) (Or.inl hd2) hL3
              refine ⟨xq_upd I2 110 (3 * k + 2) (T (p + 2) - 48), p + 1 + 1 + 1, -1, ?_, t1, t2, t3⟩
              show some (none, xq_upd (pI I2 (p + 1 + 1 + 1) (-1)) 110 (3 * k + 2) (T (p + 2) - 48), J, R) = _
              rw [pI110]
            · rw [if_neg hd2, xb_I1, a2, qX8_readAct_h105_eq, e2, e2', if_pos (by omega), if_pos (by rw [hg]; decide)]
              refine ⟨xq_upd I2 110 (3 * k + 2) 0, p + 1 + 1, Int32.ofNat (p + 1 + 1), ?_, fun a b h => by rw [xu_k h]; exact f2 a b h, fun b hb => by rw [xq_upd_n (by omega)]; exact f2a b hb, Or.inl ⟨p + 2, bad (fun z => z.elim hd2 (fun z => h45 (yi45.mpr z.2))) hL3, rfl, by omega⟩⟩
              show some (none, xq_upd (pI I2 (p + 1 + 1) (Int32.ofNat (p + 1 + 1))) 110 (3 * k + 2) 0, J, R) = _
              rw [pI110]
        · rw [if_pos hg]
          by_cases hx : T p = (120 : Int32)
          · have hL3 : yaL (T p) = 3 := by rw [hx]; rfl
            have hE : yaE (T p) (T (p + 2)) → yaD (T (p + 2)) := fun z => z.elim id (fun z => absurd (yi103.mpr z.1) hg)
            rw [if_neg (fun z => z hx), yr_dig (d := d) hT2 hH2 (by omega)]
            by_cases hd2 : yaD (T (p + 2))
            · rw [if_pos hd2, xb_I1, a2, e2, e2', if_pos (by omega)]
              have h45 : ¬ T (p + 2) = 45 := fun z => by rw [z] at hd2; revert hd2; decide
              obtain ⟨t1, t2, t3⟩ := three (T (p + 2) - 48) (by rw [if_neg h45]) (fun z => by rw [z] at hd2; revert hd2; decide) (Or.inl hd2) hL3
              refine ⟨xq_upd I2 110 (3 * k + 2) (T (p + 2) - 48), p + 1 + 1 + 1, -1, ?_, t1, t2, t3⟩
              show some (none, xq_upd (pI I2 (p + 1 + 1 + 1) (-1)) 110 (3 * k + 2) (T (p + 2) - 48), J, R) = _
              rw [pI110]
            · rw [if_neg hd2, xb_I1, a2, e2, e2', if_pos (by omega)]
              refine ⟨xq_upd I2 110 (3 * k + 2) 0, p + 1 + 1, Int32.ofNat (p + 1 + 1), ?_, fun a b h => by rw [xu_k h]; exact f2 a b h, fun b hb => by rw [xq_upd_n (by omega)]; exact f2a b hb, Or.inl ⟨p + 2, bad (fun z => hd2 (hE z)) hL3, rfl, by omega⟩⟩
              show some (none, xq_upd (pI I2 (p + 1 + 1) (Int32.ofNat (p + 1 + 1))) 110 (3 * k + 2) 0, J, R) = _
              rw [pI110]
          · rw [if_pos hx]
            have hL2 : yaL (T p) = 2 := by
              have q1 : ¬ (T p).toInt = 103 := fun z => hg (yi103.mpr z)
              have q2 : ¬ (T p).toInt = 120 := fun z => hx (by rw [xt_eq]; exact z)
              unfold yaL at hL ⊢
              rw [if_neg q1] at hL ⊢
              by_cases q3 : (T p).toInt = 105
              · rw [if_pos q3]
              · rw [if_neg q3] at hL ⊢
                by_cases q4 : (T p).toInt = 110
                · rw [if_pos q4]
                · rw [if_neg q4, if_neg q2] at hL
                  exact absurd rfl hL
            refine ⟨I2, p + 1 + 1, -1, rfl, f2, f2a, Or.inr ⟨?_, rfl, by omega, by omega, by omega, f2b, f2c, fun z => by omega⟩⟩
            unfold yaf
            rw [if_neg hL, if_neg (fun z => z hd), if_pos hL2]
      · have hfL : yaf T p = .inl (p + 1) := by
          unfold yaf
          rw [if_neg hL, if_pos hd]
        have hw : ¬ Int32.ofNat (p + 1) = -1 := fun z => by
          have := congrArg Int32.toInt z
          rw [xt_nat (by omega)] at this
          have em : ((-1 : Int32)).toInt = -1 := by decide
          omega
        rw [if_neg hd, xb_I1, a1, e1, e1', if_pos (by omega)]
        show ∃ (I' : Nat → Nat → Int32) (p' : Nat) (w' : Int32), (if ¬ T p = (103 : Int32) then (if ¬ T p = (120 : Int32) then some (none, xq_upd (pI I1 (p + 1) (Int32.ofNat (p + 1))) 110 (3 * k + 1) 0, J, R) else xq_bI (xq_D xqP (d + 3) 260 [.ref 94, .int 48, .int 10] (xq_upd (pI I1 (p + 1) (Int32.ofNat (p + 1))) 110 (3 * k + 1) 0, J, R)) _) else xq_bI (xq_D xqP (d + 3) 263 [.ref 94, .int 45] (xq_upd (pI I1 (p + 1) (Int32.ofNat (p + 1))) 110 (3 * k + 1) 0, J, R)) _) = _ ∧ _
        rw [pI110]
        generalize hI2 : xq_upd I1 110 (3 * k + 1) 0 = I2
        have f2 : ∀ a b, ¬ a = 110 → I2 a b = I a b := fun a b h => by rw [← hI2, xu_k h]; exact f1 a b h
        have f2a : ∀ b, b < 3 * k → I2 110 b = I 110 b := fun b hb => by rw [← hI2, xq_upd_n (by omega)]; exact f1a b hb
        have out : ∀ v : Int32, (∀ a b, ¬ a = 110 → (xq_upd I2 110 (3 * k + 2) v) a b = I a b) ∧ (∀ b, b < 3 * k → (xq_upd I2 110 (3 * k + 2) v) 110 b = I 110 b) := fun v => ⟨fun a b h => by rw [xu_k h]; exact f2 a b h, fun b hb => by rw [xq_upd_n (by omega)]; exact f2a b hb⟩
        by_cases hg : T p = (103 : Int32)
        · rw [if_neg (fun z => z hg), yk_pass0 hw, xb_I1, if_pos rfl, yk_one0 (d := d) hw, xb_I1, a2, qX8_readAct_h105_eq, e2, e2', if_pos (by omega), if_pos (by rw [hg]; decide)]
          refine ⟨xq_upd I2 110 (3 * k + 2) 0, p + 1, Int32.ofNat (p + 1), ?_, (out 0).1, (out 0).2, Or.inl ⟨p + 1, hfL, rfl, by omega⟩⟩
          show some (none, xq_upd (pI I2 (p + 1) (Int32.ofNat (p + 1))) 110 (3 * k + 2) 0, J, R) = _
          rw [pI110]
        · rw [if_pos hg]
          by_cases hx : T p = (120 : Int32)
          · rw [if_neg (fun z => z hx), yk_one0 (d := d) hw, xb_I1, a2, e2, e2', if_pos (by omega)]
            refine ⟨xq_upd I2 110 (3 * k + 2) 0, p + 1, Int32.ofNat (p + 1), ?_, (out 0).1, (out 0).2, Or.inl ⟨p + 1, hfL, rfl, by omega⟩⟩
            show some (none, xq_upd (pI I2 (p + 1) (Int32.ofNat (p + 1))) 110 (3 * k + 2) 0, J, R) = _
            rw [pI110]
          · rw [if_pos hx]
            exact ⟨I2, p + 1, Int32.ofNat (p + 1), rfl, f2, f2a, Or.inl ⟨p + 1, hfL, rfl, by omega⟩⟩
    by_cases h1 : T p = (110 : Int32)
    · rw [if_pos h1]
      exact key
    · rw [if_neg h1]
      by_cases h2 : T p = (105 : Int32)
      · rw [if_pos h2]
        exact key
      · rw [if_neg h2]
        by_cases h3 : T p = (103 : Int32)
        · rw [if_pos h3]
          exact key
        · rw [if_neg h3]
          by_cases h4 : T p = (120 : Int32)
          · rw [if_pos h4]
            exact key
          · refine absurd ?_ hL
            unfold yaL
            rw [if_neg (fun z => h3 (yi103.mpr z)), if_neg (fun z => h2 (by rw [xt_eq]; exact z)), if_neg (fun z => h1 (by rw [xt_eq]; exact z)), if_neg (fun z => h4 (by rw [xt_eq]; exact z))]
end YYB
