/-! THE RULE: the class's reading of a text, of the rule at first -/
def yg_R (e : Nat → Int32) (o : Nat ⊕ yk_Q) (a : Int32) (I' : Nat → Nat → Int32) : Prop := match o with
  | .inl p => a = Int32.ofNat p ∧ p ≤ 40
  | .inr Q => a = -1 ∧ ∃ sz, I' 83 4 = Int32.ofNat sz ∧ sz ≤ 40 ∧ yk_evl e (yv_c (I' 84) sz) = (yk_fl 1 Q.2.2.2.2.2 Q.2.2.2.2.1).2
section YGD
variable {d n0 stop : Nat} {e T : Nat → Int32} {J : Nat → Nat → Int64} {R : Nat → Nat → Nat}
theorem yg_fin {I : Nat → Nat → Int32} {sz : Nat} {Q : yk_Q} (hS : yg_S e I sz Q) (hn : sz + Q.2.2.2.2.2.length ≤ 40) : ∃ I', xq_D xqP (d + 2) 54 [.ref 83, .int (1 : Int32)] (I, J, R) = some (none, I', J, R) ∧ yg_fr I I' ∧ ∃ sz', I' 83 4 = Int32.ofNat sz' ∧ sz' ≤ 40 ∧ yk_evl e (yv_c (I' 84) sz') = (yk_fl 1 Q.2.2.2.2.2 Q.2.2.2.2.1).2 := by
  obtain ⟨-, -, ⟨h4, hV⟩, h5, hr, ho⟩ := hS
  obtain ⟨I1, sz', c0, c1, c2, c3, c4⟩ := yg_reck (d := d) (J := J) (R := R) (b := 1) (by decide) (by decide) Q.2.2.2.2.2 sz I h5 h4 hn hr ho
  obtain ⟨x1, x2, x3, x4, x5⟩ := c4 e
  rw [yg_rd]
  refine ⟨I1, c0, fun k j hk => c1 k j (by omega) (by omega), sz', c2, by omega, ?_⟩
  rw [← x5, hV]
theorem yg_loop (hst : stop = if 40 < n0 then 40 else n0) (hn0 : n0 ≤ 80) : ∀ (m p sz : Nat) (Q : yk_Q) (I : Nat → Nat → Int32), p + m = stop → I 1 1 = Int32.ofNat n0 → (∀ i, i < stop → I 2 i = T i ∧ 0 ≤ (T i).toInt ∧ (T i).toInt ≤ 255) → yg_S e I sz Q → sz + Q.2.2.2.2.2.length ≤ p → ∃ a I', qX3_read_83_h29 (d + 4) (Int32.ofNat stop) (Int32.ofNat p) (I, J, R) = some (some (.int a), I', J, R) ∧ yg_fr I I' ∧ yg_R e (yk_o e T n0 stop p Q) a I'
  | 0, p, sz, Q, I, hp, h11, hT, hS, hn => by
    have hs40 : stop ≤ 40 := by
      rw [hst]
      split <;> omega
    have hI : (I, J, R).1 1 1 = Int32.ofNat n0 := h11
    have l40 : ((40 : Int32) < Int32.ofNat n0) ↔ 40 < n0 := xr_lt (a := 40) (b := n0) (by omega) (by omega)
    have eo : yk_o e T n0 stop p Q = if 40 < n0 ∨ Q.1 = true ∨ 0 < Q.2.1 then .inl stop else .inr Q := by
      unfold yk_o
      rw [show stop - p = 0 by omega]
      rfl
    have bad : (40 < n0 ∨ Q.1 = true ∨ 0 < Q.2.1) → ∃ a I', some (some (Value.int (Int32.ofNat stop)), (I, J, R)) = some (some (.int a), I', J, R) ∧ yg_fr I I' ∧ yg_R e (yk_o e T n0 stop p Q) a I' := fun h => by
      rw [eo, if_pos h]
      exact ⟨_, I, rfl, fun _ _ _ => rfl, rfl, hs40⟩
    rw [qX3_read_83_h29_eq, if_pos ((xr_le (by omega) (by omega)).mpr (by omega)), hI]
    by_cases g1 : 40 < n0
    · rw [if_pos (l40.mpr g1)]
      exact bad (Or.inl g1)
    rw [if_neg (fun z => g1 (l40.mp z))]
    obtain ⟨⟨h8, h6, hdp, -⟩, -⟩ := id hS
    have h8' : (I, J, R).1 83 8 = yg_b Q.1 := h8
    have h6' : (I, J, R).1 83 6 = Int32.ofNat Q.2.1 := h6
    rw [h8', h6']
    by_cases g2 : Q.1 = true
    · rw [g2, if_pos (show ¬ yg_b true = 0 by decide)]
      exact bad (Or.inr (Or.inl g2))
    have g2' : Q.1 = false := by
      cases h : Q.1 with
      | true => exact absurd h g2
      | false => rfl
    rw [g2', if_neg (show ¬ ¬ yg_b false = 0 by decide)]
    have l0 : (Int32.ofNat Q.2.1 ≤ (0 : Int32)) ↔ Q.2.1 ≤ 0 := xr_le (a := Q.2.1) (b := 0) (by omega) (by omega)
    by_cases g3 : 0 < Q.2.1
    · rw [if_neg (fun z => by have := l0.mp z; omega)]
      exact bad (Or.inr (Or.inr g3))
    rw [if_pos (l0.mpr (by omega)), show d + 4 = (d + 2) + 2 by omega]
    obtain ⟨I', x1, x2, x3⟩ := yg_fin (d := d + 2) (J := J) (R := R) hS (by omega)
    rw [x1, xb_V1, eo, if_neg (fun z => z.elim g1 (fun z => z.elim g2 g3))]
    exact ⟨-1, I', rfl, x2, rfl, x3⟩
  | m + 1, p, sz, Q, I, hp, h11, hT, hS, hn => by
    have hs40 : stop ≤ 40 := by
      rw [hst]
      split <;> omega
    have hsn : stop ≤ n0 := by
      rw [hst]
      split <;> omega
    have hps : p < stop := by omega
    obtain ⟨t1, t2, t3⟩ := hT p hps
    have b1 := xt_nat (n := p) (by omega)
    have b2 : (Int32.ofNat p).toInt.toNat = p := by omega
    have e0 : (0 : Int32).toInt = 0 := by decide
    have a1 : Int32.ofNat p + (1 : Int32) = Int32.ofNat (p + 1) := (Int32.ofNat_add p 1).symm
    have hI : (I, J, R).1 1 1 = Int32.ofNat n0 := h11
    have hat : xq_D xqP (d + 4) 93 [.ref 1, .int (Int32.ofNat p)] (I, J, R) = some (some (.int (T p)), I, J, R) := by
      rw [qX6_at_eq, if_neg (fun z => by have := xt_lt.mp z; omega), hI, if_neg (fun z => by have := (xr_le (by omega) (by omega)).mp z; omega), b2, b1, if_pos (by omega)]
      show some (some (Value.int (I 2 p)), I, J, R) = _
      rw [t1]
    have next : ∀ (a1 : Int32) (I1 : Nat → Nat → Int32) (F : Int32 → xq_S → Option xq_O), (∀ w S, F w S = if ¬ w = 0 then qX3_read_83_h29 (d + 4) (Int32.ofNat stop) (Int32.ofNat (p + 1)) S else some (some (.int (Int32.ofNat p)), S)) → yg_fr I I1 → yg_P e (p + 1) (yk_1 e (T p) Q) a1 I1 → ∃ a I', F a1 (I1, J, R) = some (some (.int a), I', J, R) ∧ yg_fr I I' ∧ yg_R e (yk_o e T n0 stop p Q) a I' := by
      intro a1 I1 F hF hfr hP
      rw [hF]
      cases hq : yk_1 e (T p) Q with
      | none =>
        rw [hq] at hP
        have hP : a1 = 0 := hP
        rw [hP, if_neg (fun z => z rfl), yk_o_n hps hq]
        exact ⟨_, I1, rfl, hfr, rfl, by omega⟩
      | some Q' =>
        rw [hq] at hP
        obtain ⟨ha, sz', hS', hn'⟩ := hP
        have hT' : ∀ i, i < stop → I1 2 i = T i ∧ 0 ≤ (T i).toInt ∧ (T i).toInt ≤ 255 := fun i hi => by
          obtain ⟨x1, x2⟩ := hT i hi
          exact ⟨(hfr 2 i (by omega)).trans x1, x2⟩
        obtain ⟨a, I', x1, x2, x3⟩ := yg_loop hst hn0 m (p + 1) sz' Q' I1 (by omega) ((hfr 1 1 (by omega)).trans h11) hT' hS' hn'
        rw [ha, if_pos (by decide), yk_o_s hps hq]
        exact ⟨a, I', x1, fun k j hk => (x2 k j hk).trans (hfr k j hk), x3⟩
    rw [qX3_read_83_h29_eq, if_neg (fun z => by have := (xr_le (by omega) (by omega)).mp z; omega), hat, xb_I1]
    obtain ⟨⟨h8, -⟩, -⟩ := id hS
    have h8' : (I, J, R).1 83 8 = yg_b Q.1 := h8
    rw [h8']
    obtain ⟨due, dp, cm, dg, V, W⟩ := Q
    have hn : sz + W.length ≤ p := hn
    cases due with
    | false =>
      obtain ⟨a1', I1, x1, x2, x3⟩ := yg_behind (d := d) (J := J) (R := R) hS (by omega) ⟨t2, t3⟩
      rw [if_pos (show yg_b false = 0 by decide), x1, xb_I1]
      refine next a1' I1 _ (fun w S => by rw [qX3_read_83_h63_eq, a1]) x2 ?_
      generalize yk_1 e (T p) (false, dp, cm, dg, V, W) = o at x3 ⊢
      cases o with
      | none => exact x3
      | some Q' =>
        obtain ⟨y1, sz', y2, y3⟩ := x3
        exact ⟨y1, sz', y2, by omega⟩
    | true =>
      obtain ⟨a1', I1, x1, x2, x3⟩ := yg_thing (d := d + 1) (J := J) (R := R) hS (by omega) ⟨t2, t3⟩
      rw [if_neg (show ¬ yg_b true = 0 by decide)]
      show ∃ a I', xq_bI (xq_D xqP (d + 4) 57 [.ref 83, .int (T p)] (I, J, R)) _ = _ ∧ _
      rw [show xq_D xqP (d + 4) 57 [.ref 83, .int (T p)] (I, J, R) = some (some (.int a1'), I1, J, R) from x1, xb_I1]
      refine next a1' I1 _ (fun w S => by rw [qX3_read_83_h63a_eq, a1]) x2 ?_
      generalize yk_1 e (T p) (true, dp, cm, dg, V, W) = o at x3 ⊢
      cases o with
      | none => exact x3
      | some Q' =>
        obtain ⟨y1, sz', y2, y3⟩ := x3
        exact ⟨y1, sz', y2, by omega⟩
theorem yg_begin {I : Nat → Nat → Int32} : ∃ I', xq_D xqP (d + 1) 44 [.ref 83] (I, J, R) = some (none, I', J, R) ∧ yg_fr I I' ∧ ∀ e, yg_S e I' 0 yk_Q0 := by
  refine ⟨_, qX3_begin_83_eq d (I, J, R), fun k j hk => ?_, fun e => ⟨⟨?_, ?_, by show 0 ≤ 4; omega, fun j hj => ?_⟩, ⟨?_, Nat.zero_le _, fun z => by cases z⟩, ⟨?_, rfl⟩, ?_, trivial, fun o h => by cases h⟩⟩
  · rw [xq_upd_n (by omega), xq_upd_n (by omega), xq_upd_n (by omega), xq_upd_n (by omega), xq_upd_n (by omega), xq_upd_n (by omega)]
  · rw [xu_k (by decide), xu_t]; rfl
  · rw [xu_k (by decide), xu_j (by decide), xu_j (by decide), xu_t]; rfl
  · have hj : j ≤ 0 := hj
    obtain rfl : j = 0 := by omega
    rw [xu_t]; rfl
  · rw [xu_k (by decide), xu_j (by decide), xu_t]; rfl
  · rw [xu_k (by decide), xu_j (by decide), xu_j (by decide), xu_j (by decide), xu_j (by decide), xu_t]; rfl
  · rw [xu_k (by decide), xu_j (by decide), xu_j (by decide), xu_j (by decide), xu_t]; rfl
/-- the rule at first -/
def yg_T1 (p : Nat) : Int32 := xt_at (Int32.ofNat p)
def yg_v1 (e : Nat → Int32) : Int32 := e 1 + e 2 + (if 5 < e 0 then 1 else 0) * 9
theorem yg_T1_r : ∀ p, p < 11 → 0 ≤ (yg_T1 p).toInt ∧ (yg_T1 p).toInt ≤ 255 := by decide
theorem yg_run1 : ∃ Q, yk_o e yg_T1 11 11 0 yk_Q0 = .inr Q ∧ (yk_fl 1 Q.2.2.2.2.2 Q.2.2.2.2.1).2 = [yg_v1 e] := ⟨_, rfl, rfl⟩
theorem yg_first : ∀ (m p sz : Nat) (Q Q9 : yk_Q) (I : Nat → Nat → Int32), p + m = 11 → yk_o e yg_T1 11 11 p Q = .inr Q9 → yg_S e I sz Q → sz + Q.2.2.2.2.2.length ≤ p → ∃ I', qX3_readFirst_83_h6 (d + 4) (Int32.ofNat p) (I, J, R) = some (none, I', J, R) ∧ yg_fr I I' ∧ ∃ sz', I' 83 4 = Int32.ofNat sz' ∧ sz' ≤ 40 ∧ yk_evl e (yv_c (I' 84) sz') = (yk_fl 1 Q9.2.2.2.2.2 Q9.2.2.2.2.1).2
  | 0, p, sz, Q, Q9, I, hp, ho, hS, hn => by
    have eo : yk_o e yg_T1 11 11 p Q = if 40 < 11 ∨ Q.1 = true ∨ 0 < Q.2.1 then .inl 11 else .inr Q := by
      unfold yk_o
      rw [show 11 - p = 0 by omega]
      rfl
    have e9 : Q = Q9 := by
      rw [eo] at ho
      split at ho
      · cases ho
      · cases ho
        rfl
    subst e9
    rw [qX3_readFirst_83_h6_eq, if_pos (show (11 : Int32) ≤ Int32.ofNat p from (xr_le (a := 11) (by omega) (by omega)).mpr (by omega)), show d + 4 = (d + 2) + 2 by omega]
    obtain ⟨I', x1, x2, x3⟩ := yg_fin (d := d + 2) (J := J) (R := R) hS (by omega)
    rw [x1, xb_V1]
    exact ⟨I', rfl, x2, x3⟩
  | m + 1, p, sz, Q, Q9, I, hp, ho, hS, hn => by
    have b1 := xt_nat (n := p) (by omega)
    have a1 : Int32.ofNat p + (1 : Int32) = Int32.ofNat (p + 1) := (Int32.ofNat_add p 1).symm
    obtain ⟨t2, t3⟩ := yg_T1_r p (by omega)
    have g10 : 0 ≤ Int32.ofNat p ∧ Int32.ofNat p ≤ 10 := ⟨(xr_le (a := 0) (by omega) (by omega)).mpr (by omega), (xr_le (b := 10) (by omega) (by omega)).mpr (by omega)⟩
    have next : ∀ (a1 : Int32) (I1 : Nat → Nat → Int32), yg_fr I I1 → yg_P e (p + 1) (yk_1 e (yg_T1 p) Q) a1 I1 → ∃ I', qX3_readFirst_83_h6 (d + 4) (Int32.ofNat (p + 1)) (I1, J, R) = some (none, I', J, R) ∧ yg_fr I I' ∧ ∃ sz', I' 83 4 = Int32.ofNat sz' ∧ sz' ≤ 40 ∧ yk_evl e (yv_c (I' 84) sz') = (yk_fl 1 Q9.2.2.2.2.2 Q9.2.2.2.2.1).2 := by
      intro a1 I1 hfr hP
      cases hq : yk_1 e (yg_T1 p) Q with
      | none =>
        rw [yk_o_n (show p < 11 by omega) hq] at ho
        cases ho
      | some Q' =>
        rw [hq] at hP
        rw [yk_o_s (show p < 11 by omega) hq] at ho
        obtain ⟨-, sz', hS', hn'⟩ := hP
        obtain ⟨I', x1, x2, x3⟩ := yg_first m (p + 1) sz' Q' Q9 I1 (by omega) ho hS' hn'
        exact ⟨I', x1, fun k j hk => (x2 k j hk).trans (hfr k j hk), x3⟩
    rw [qX3_readFirst_83_h6_eq, if_neg (fun z => by have := (xr_le (a := 11) (by omega) (by omega)).mp z; omega)]
    obtain ⟨⟨h8, -⟩, -⟩ := id hS
    have h8' : (I, J, R).1 83 8 = yg_b Q.1 := h8
    rw [h8', if_pos g10]
    obtain ⟨due, dp, cm, dg, V, W⟩ := Q
    have hn : sz + W.length ≤ p := hn
    have wide : ∀ (o : Option yk_Q) (a1 : Int32) (I1 : Nat → Nat → Int32), yg_P e (sz + W.length + 1) o a1 I1 → yg_P e (p + 1) o a1 I1 := by
      intro o a1 I1 x3
      cases o with
      | none => exact x3
      | some Q' =>
        obtain ⟨y1, sz', y2, y3⟩ := x3
        exact ⟨y1, sz', y2, by omega⟩
    cases due with
    | false =>
      obtain ⟨a1', I1, x1, x2, x3⟩ := yg_behind (d := d) (J := J) (R := R) hS (by omega) ⟨t2, t3⟩
      have x1 : xq_D xqP (d + 4) 55 [.ref 83, .int (xt_at (Int32.ofNat p))] (I, J, R) = _ := x1
      rw [if_pos (show yg_b false = 0 by decide), x1, xb_I1, qX3_readFirst_83_h47_eq, a1]
      exact next a1' I1 x2 (wide _ _ _ x3)
    | true =>
      obtain ⟨a1', I1, x1, x2, x3⟩ := yg_thing (d := d + 1) (J := J) (R := R) hS (by omega) ⟨t2, t3⟩
      have x1 : xq_D xqP (d + 4) 57 [.ref 83, .int (xt_at (Int32.ofNat p))] (I, J, R) = _ := x1
      rw [if_neg (show ¬ yg_b true = 0 by decide), if_pos g10, x1, xb_I1, qX3_readFirst_83_h47_eq, a1]
      exact next a1' I1 x2 (wide _ _ _ x3)
end YGD
