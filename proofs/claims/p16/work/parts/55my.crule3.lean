/-! THE RULE: the class's reader behind a thing -/
def yg_dm (dp : Nat) (cm : Nat → Bool) (dg : Nat) (s : Int32) (W : List Int32) : List Int32 → Option yk_Q
  | v :: t => some (false, dp, cm, dg + 1, (v * 10 + (s - 48)) :: t, W)
  | [] => none
section YGC
variable {d : Nat} {e : Nat → Int32} {I : Nat → Nat → Int32} {J : Nat → Nat → Int64} {R : Nat → Nat → Nat} {s : Int32} {sz dp dg : Nat} {cm : Nat → Bool} {V W : List Int32}
/-- a digit more -/
theorem yg_dm_c {v : Int32} : yg_dm dp cm dg s W (v :: V) = some (false, dp, cm, dg + 1, (v * 10 + (s - 48)) :: V, W) := rfl
theorem yg_more (hS : yg_S e I sz (false, dp, cm, dg, V, W)) (hn : sz + W.length < 40) (hs : 48 ≤ s.toInt ∧ s.toInt ≤ 57) : ∃ a I', (a = 0 ∨ a = 1) ∧ xq_D xqP (d + 1) 56 [.ref 83, .int (s - 48)] (I, J, R) = some (some (.int a), I', J, R) ∧ yg_fr I I' ∧ yg_P e (sz + W.length + 1) (if 1 ≤ dg ∧ dg < 3 then yg_dm dp cm dg s W V else none) a I' := by
  obtain ⟨⟨h8, h6, hdp, h87⟩, ⟨h7, hdg, hdig⟩, ⟨h4, hV⟩, h5, hr, ho⟩ := hS
  have hdp : dp ≤ 4 := hdp
  have hdg : dg ≤ 3 := hdg
  have h8 : I 83 8 = 0 := h8
  have h6 : I 83 6 = Int32.ofNat dp := h6
  have h7 : I 83 7 = Int32.ofNat dg := h7
  have h87 : ∀ j, j ≤ dp → I 87 j = yg_b (cm j) := h87
  have hV : V = yk_evl e (yv_c (I 84) sz) := hV
  have h5 : I 83 5 = Int32.ofNat W.length := h5
  have hr : yv_r (I 85) W := hr
  have ho : ∀ o ∈ W, 8 ≤ o.toInt ∧ o.toInt ≤ 256 := ho
  have hdig : 1 ≤ dg → yg_n I sz dg := hdig rfl
  have hI : (I, J, R).1 83 7 = Int32.ofNat dg := h7
  have hI4 : (I, J, R).1 83 4 = Int32.ofNat sz := h4
  have l1 : (Int32.ofNat dg < (1 : Int32)) ↔ dg < 1 := xr_lt (a := dg) (b := 1) (by omega) (by omega)
  have l3 : ((3 : Int32) ≤ Int32.ofNat dg) ↔ 3 ≤ dg := xr_le (a := 3) (b := dg) (by omega) (by omega)
  rw [qX3_takeDigitMore_83_eq, hI]
  by_cases g1 : 1 ≤ dg ∧ dg < 3
  · obtain ⟨n1, n2, n3⟩ := hdig g1.1
    obtain ⟨m, rfl⟩ : ∃ m, sz = m + 1 := ⟨sz - 1, by omega⟩
    have n2 : 0 ≤ (I 84 m).toInt := n2
    have n3 : (I 84 m).toInt < if dg = 1 then 10 else if dg = 2 then 100 else 1000 := n3
    have n4 : (I 84 m).toInt < 100 := by
      rcases (show dg = 1 ∨ dg = 2 by omega) with q | q
      · subst q; rw [if_pos rfl] at n3; omega
      · subst q; rw [if_neg (by decide), if_pos rfl] at n3; omega
    have e1 : Int32.ofNat (m + 1) - 1 = Int32.ofNat m := xr_sub1' (by omega)
    have b1 := xt_nat (n := m) (by omega)
    have b2 : (Int32.ofNat m).toInt.toNat = m := by omega
    have ls : (1 : Int32) ≤ Int32.ofNat (m + 1) := (xr_le (a := 1) (b := m + 1) (by omega) (by omega)).mpr (by omega)
    have a1 : Int32.ofNat dg + (1 : Int32) = Int32.ofNat (dg + 1) := (Int32.ofNat_add dg 1).symm
    rw [if_neg (fun z => by have := l1.mp z; omega), if_neg (fun z => by have := l3.mp z; omega), hI4, if_pos ls, e1, b2, b1, if_pos (by omega), if_pos (by omega), a1, if_pos g1]
    have ev : V = I 84 m :: yk_evl e (yv_c (I 84) m) := by
      rw [hV]
      exact yg_evn n2
    rw [ev, yg_dm_c]
    have c48 : (48 : Int32).toInt = 48 := by decide
    have c10 : (10 : Int32).toInt = 10 := by decide
    have e48 : (s - 48).toInt = s.toInt - 48 := by
      rw [xt_sub (by rw [c48]; omega) (by rw [c48]; omega), c48]
    have em : (I 84 m * 10).toInt = (I 84 m).toInt * 10 := by
      rw [xt_mul (by rw [c10]; omega) (by rw [c10]; omega), c10]
    have ea : (I 84 m * 10 + (s - 48)).toInt = (I 84 m).toInt * 10 + (s.toInt - 48) := by
      rw [xt_add (by omega) (by omega), em, e48]
    refine ⟨1, xq_upd (xq_upd I 83 7 (Int32.ofNat (dg + 1))) 84 m (I 84 m * 10 + (s - 48)), Or.inr rfl, rfl, fun k j hk => ?_, rfl, m + 1, ⟨⟨?_, ?_, hdp, fun j hj => ?_⟩, ⟨?_, ?_, fun _ _ => ?_⟩, ⟨?_, ?_⟩, ?_, ?_, ho⟩, ?_⟩
    · rw [xq_upd_n (by omega), xq_upd_n (by omega)]
    · rw [xu_k (by decide), xu_j (by decide)]; exact h8
    · rw [xu_k (by decide), xu_j (by decide)]; exact h6
    · rw [xu_k (by decide), xu_k (by decide)]; exact h87 j hj
    · rw [xu_k (by decide), xu_t]
    · show dg + 1 ≤ 3
      omega
    · refine ⟨Nat.succ_pos _, ?_⟩
      rw [show m + 1 - 1 = m by omega, xu_t]
      show 0 ≤ (I 84 m * 10 + (s - 48)).toInt ∧ (I 84 m * 10 + (s - 48)).toInt < if dg + 1 = 1 then 10 else if dg + 1 = 2 then 100 else 1000
      rw [ea]
      rcases (show dg = 1 ∨ dg = 2 by omega) with q | q
      · subst q
        rw [if_pos rfl] at n3
        rw [if_neg (by decide), if_pos rfl]
        omega
      · subst q
        rw [if_neg (by decide), if_neg (by decide)]
        omega
    · rw [xu_k (by decide), xu_j (by decide)]; exact h4
    · show (I 84 m * 10 + (s - 48)) :: yk_evl e (yv_c (I 84) m) = _
      have ec : yv_c (xq_upd (xq_upd I 83 7 (Int32.ofNat (dg + 1))) 84 m (I 84 m * 10 + (s - 48)) 84) (m + 1) = (I 84 m * 10 + (s - 48)) :: yv_c (I 84) m := by
        show xq_upd (xq_upd I 83 7 (Int32.ofNat (dg + 1))) 84 m (I 84 m * 10 + (s - 48)) 84 m :: yv_c (xq_upd (xq_upd I 83 7 (Int32.ofNat (dg + 1))) 84 m (I 84 m * 10 + (s - 48)) 84) m = _
        rw [yv_c_up (F := I 84) (fun j hj => by rw [xq_upd_n (by omega), xu_k (by decide)]), xu_t]
      show _ = yk_evl e (yv_c (xq_upd (xq_upd I 83 7 (Int32.ofNat (dg + 1))) 84 m (I 84 m * 10 + (s - 48)) 84) (m + 1))
      rw [ec]
      exact (yg_evn (by omega)).symm
    · rw [xu_k (by decide), xu_j (by decide)]; exact h5
    · exact yv_r_up (fun j hj => by rw [xu_k (by decide), xu_k (by decide)]) hr
    · show m + 1 + W.length ≤ _
      omega
  · rw [if_neg g1]
    by_cases g2 : dg < 1
    · rw [if_pos (l1.mpr g2)]
      exact ⟨0, I, Or.inl rfl, rfl, fun _ _ _ => rfl, rfl⟩
    · rw [if_neg (fun z => g2 (l1.mp z)), if_pos (l3.mpr (by omega))]
      exact ⟨0, I, Or.inl rfl, rfl, fun _ _ _ => rfl, rfl⟩
/-- ')' -/
theorem yg_close (hS : yg_S e I sz (false, dp, cm, 0, V, W)) (hn : sz + W.length < 40) : ∃ a I', (a = 0 ∨ a = 1) ∧ xq_D xqP (d + 3) 46 [.ref 83] (I, J, R) = some (some (.int a), I', J, R) ∧ yg_fr I I' ∧ yg_P e (sz + W.length + 1) (if dp = 0 then none else some (false, dp - 1, cm, 0, (yk_fl 1 W V).2, (yk_fl 1 W V).1.tail)) a I' := by
  obtain ⟨⟨h8, h6, hdp, h87⟩, ⟨h7, -, -⟩, ⟨h4, hV⟩, h5, hr, ho⟩ := hS
  have hdp : dp ≤ 4 := hdp
  have h8 : I 83 8 = 0 := h8
  have h6 : I 83 6 = Int32.ofNat dp := h6
  have h7 : I 83 7 = Int32.ofNat 0 := h7
  have h87 : ∀ j, j ≤ dp → I 87 j = yg_b (cm j) := h87
  have hV : V = yk_evl e (yv_c (I 84) sz) := hV
  have h5 : I 83 5 = Int32.ofNat W.length := h5
  have hr : yv_r (I 85) W := hr
  have ho : ∀ o ∈ W, 8 ≤ o.toInt ∧ o.toInt ≤ 256 := ho
  have hI : (I, J, R).1 83 6 = Int32.ofNat dp := h6
  rw [qX3_closeBracket_83_eq, hI]
  by_cases g1 : dp = 0
  · subst g1
    rw [if_neg (fun z => z rfl), if_pos rfl]
    exact ⟨0, I, Or.inl rfl, rfl, fun _ _ _ => rfl, rfl⟩
  · obtain ⟨m, rfl⟩ : ∃ m, dp = m + 1 := ⟨dp - 1, by omega⟩
    have hne : ¬ Int32.ofNat (m + 1) = 0 := fun z => by
      have := congrArg Int32.toInt z
      rw [xt_nat (by omega)] at this
      have e0 : (0 : Int32).toInt = 0 := by decide
      omega
    obtain ⟨I1, sz', c0, c1, c2, c3, c4⟩ := yg_reck (d := d) (J := J) (R := R) (b := 1) (by decide) (by decide) W sz I h5 h4 (by omega) hr ho
    obtain ⟨x1, x2, x3, x4, x5⟩ := c4 e
    rw [← hV] at x1 x2 x3 x4 x5
    have x2 : sz' + (yk_fl 1 W V).1.length ≤ sz + W.length := x2
    have c0 : qX3_reckonDownTo_83_h0 (d + 1) (1 : Int32) (I, J, R) = some (none, I1, J, R) := c0
    rw [if_pos hne, yg_rd, c0, xb_V1, if_neg g1]
    show ∃ a I', _ ∧ some (some (Value.int 1), xq_upd (xq_upd I1 83 6 (I1 83 6 - 1)) 83 5 (if (0 : Int32) < I1 83 5 - 1 then I1 83 5 - 1 else 0), J, R) = _ ∧ _
    have e6 : I1 83 6 = Int32.ofNat (m + 1) := (c1 83 6 (by decide) (by decide)).trans h6
    rw [e6, xr_sub1' (by omega), x1]
    have ew : (if (0 : Int32) < Int32.ofNat (yk_fl 1 W V).1.length - 1 then Int32.ofNat (yk_fl 1 W V).1.length - 1 else 0) = Int32.ofNat (yk_fl 1 W V).1.tail.length := by
      generalize (yk_fl 1 W V).1 = X at x2
      cases X with
      | nil =>
        show (if (0 : Int32) < Int32.ofNat 0 - 1 then Int32.ofNat 0 - 1 else 0) = _
        decide
      | cons o X =>
        have x2 : sz' + (X.length + 1) ≤ sz + W.length := x2
        show (if (0 : Int32) < Int32.ofNat (X.length + 1) - 1 then Int32.ofNat (X.length + 1) - 1 else 0) = Int32.ofNat X.length
        rw [xr_sub1' (by omega)]
        by_cases z : (0 : Int32) < Int32.ofNat X.length
        · rw [if_pos z]
        · rw [if_neg z]
          have : ¬ 0 < X.length := fun q => z ((xr_lt (a := 0) (b := X.length) (by omega) (by omega)).mpr q)
          rw [show X.length = 0 by omega]
          rfl
    rw [ew]
    refine ⟨1, xq_upd (xq_upd I1 83 6 (Int32.ofNat m)) 83 5 (Int32.ofNat (yk_fl 1 W V).1.tail.length), Or.inr rfl, rfl, fun k j hk => ?_, rfl, sz', ⟨⟨?_, ?_, (by show m + 1 - 1 ≤ 4; omega), fun j hj => ?_⟩, ⟨?_, Nat.zero_le _, fun _ z => absurd z (by show ¬ 1 ≤ 0; decide)⟩, ⟨?_, ?_⟩, ?_, ?_, fun o h => ?_⟩, ?_⟩
    · rw [xq_upd_n (by omega), xq_upd_n (by omega)]
      exact c1 k j (by omega) (by omega)
    · rw [xu_j (by decide), xu_j (by decide), c1 83 8 (by decide) (by decide)]; exact h8
    · rw [xu_j (by decide), xu_t]; rfl
    · have hj : j ≤ m := hj
      rw [xu_k (by decide), xu_k (by decide), c1 87 j (by omega) (by decide)]
      exact h87 j (by omega)
    · rw [xu_j (by decide), xu_j (by decide), c1 83 7 (by decide) (by decide)]; exact h7
    · rw [xu_j (by decide), xu_j (by decide)]; exact c2
    · rw [yv_c_up (F := I1 84) (fun j hj => by rw [xu_k (by decide), xu_k (by decide)])]
      exact x5
    · exact xu_t
    · have x3' : yv_r (I 85) (yk_fl 1 W V).1.tail := by
        generalize (yk_fl 1 W V).1 = X at x3
        cases X with
        | nil => exact trivial
        | cons o X => exact x3.2
      refine yv_r_up (fun j hj => ?_) x3'
      rw [xu_k (by decide), xu_k (by decide), c1 85 j (by omega) (by decide)]
    · exact ho o (x4 o (List.mem_of_mem_tail h))
    · show sz' + (yk_fl 1 W V).1.tail.length ≤ _
      rw [List.length_tail]
      omega
/-- an operator -/
theorem yg_op (hS : yg_S e I sz (false, dp, cm, 0, V, W)) (hn : sz + W.length < 40) (hs : 8 ≤ s.toInt ∧ s.toInt ≤ 255) (hb : 1 ≤ yk_bd s) {v : Int32} (hv : v = if cm dp = true then 1 else if ¬ Int32.ofNat (yk_bd s) = (1 : Int32) then 0 else 1) : ∃ I', qX3_takeBehindThing_83_h90 (d + 2) s (Int32.ofNat (yk_bd s)) v (Int32.ofNat dp) (I, J, R) = some (some (.int 1), I', J, R) ∧ yg_fr I I' ∧ yg_P e (sz + W.length + 1) (some (true, dp, yk_up cm dp (cm dp || yk_bd s == 1), 0, (yk_fl (yk_bd s) W V).2, s :: (yk_fl (yk_bd s) W V).1)) 1 I' := by
  obtain ⟨⟨h8, h6, hdp, h87⟩, ⟨h7, -, -⟩, ⟨h4, hV⟩, h5, hr, ho⟩ := hS
  have hdp : dp ≤ 4 := hdp
  have h8 : I 83 8 = 0 := h8
  have h6 : I 83 6 = Int32.ofNat dp := h6
  have h7 : I 83 7 = Int32.ofNat 0 := h7
  have h87 : ∀ j, j ≤ dp → I 87 j = yg_b (cm j) := h87
  have hV : V = yk_evl e (yv_c (I 84) sz) := hV
  have h5 : I 83 5 = Int32.ofNat W.length := h5
  have hr : yv_r (I 85) W := hr
  have ho : ∀ o ∈ W, 8 ≤ o.toInt ∧ o.toInt ≤ 256 := ho
  have b1 := xt_nat (n := dp) (by omega)
  have b2 : (Int32.ofNat dp).toInt.toNat = dp := by omega
  have hvb : vp_nar .boolean v = yg_b (cm dp || yk_bd s == 1) := by
    have hbd := yg_bd s
    have h1 : (Int32.ofNat (yk_bd s) = (1 : Int32)) ↔ yk_bd s = 1 := by
      constructor
      · intro z
        have := congrArg Int32.toInt z
        rw [xt_nat (by omega)] at this
        have e0 : (1 : Int32).toInt = 1 := by decide
        omega
      · intro z
        rw [z]
        rfl
    rw [hv]
    cases cm dp with
    | true => rw [if_pos rfl]; rfl
    | false =>
      rw [if_neg (by decide)]
      by_cases z : yk_bd s = 1
      · rw [if_neg (fun q => q (h1.mpr z)), z]
        rfl
      · rw [if_pos (fun q => z (h1.mp q))]
        have : (yk_bd s == 1) = false := by
          rw [beq_eq_false_iff_ne]
          exact z
        rw [this]
        rfl
  rw [qX3_takeBehindThing_83_h90_eq, b1, if_pos (by omega), hvb, yg_rd]
  show ∃ I', xq_bV (qX3_reckonDownTo_83_h0 (d + 1) (Int32.ofNat (yk_bd s)) (xq_upd I 87 dp (yg_b (cm dp || yk_bd s == 1)), J, R)) _ = _ ∧ _
  generalize hI0 : xq_upd I 87 dp (yg_b (cm dp || yk_bd s == 1)) = I0
  have k0 : ∀ k j, ¬ k = 87 → I0 k j = I k j := fun k j h => by rw [← hI0, xu_k h]
  have k84 : I0 84 = I 84 := funext fun j => k0 84 j (by decide)
  have k85 : I0 85 = I 85 := funext fun j => k0 85 j (by decide)
  obtain ⟨I1, sz', c0, c1, c2, c3, c4⟩ := yg_reck (d := d) (J := J) (R := R) (b := yk_bd s) hb (yg_bd s) W sz I0 ((k0 _ _ (by decide)).trans h5) ((k0 _ _ (by decide)).trans h4) (by omega) (by rw [k85]; exact hr) ho
  obtain ⟨x1, x2, x3, x4, x5⟩ := c4 e
  rw [k84, ← hV] at x1 x2 x3 x4 x5
  rw [k85] at x3
  rw [c0, xb_V1, yg_await x1 (by omega), xb_V1]
  refine ⟨xq_upd (xq_upd (xq_upd I1 85 (yk_fl (yk_bd s) W V).1.length s) 83 5 (Int32.ofNat ((yk_fl (yk_bd s) W V).1.length + 1))) 83 8 1, rfl, fun k j hk => ?_, rfl, sz', ⟨⟨?_, ?_, hdp, fun j hj => ?_⟩, ⟨?_, Nat.zero_le _, fun z => by cases z⟩, ⟨?_, ?_⟩, ?_, ⟨?_, ?_⟩, fun o h => ?_⟩, ?_⟩
  · rw [xq_upd_n (by omega), xq_upd_n (by omega), xq_upd_n (by omega), c1 k j (by omega) (by omega)]
    exact k0 k j (by omega)
  · exact xu_t
  · rw [xu_j (by decide), xu_j (by decide), xu_k (by decide), c1 83 6 (by decide) (by decide), k0 83 6 (by decide)]; exact h6
  · have hj : j ≤ dp := hj
    rw [xu_k (by decide), xu_k (by decide), xu_k (by decide), c1 87 j (by omega) (by decide), ← hI0]
    show _ = yg_b (if j = dp then _ else cm j)
    by_cases z : j = dp
    · subst z
      rw [xu_t, if_pos rfl]
    · rw [xu_j z, if_neg z]
      exact h87 j hj
  · rw [xu_j (by decide), xu_j (by decide), xu_k (by decide), c1 83 7 (by decide) (by decide), k0 83 7 (by decide)]; exact h7
  · rw [xu_j (by decide), xu_j (by decide), xu_k (by decide)]; exact c2
  · rw [yv_c_up (F := I1 84) (fun j hj => by rw [xu_k (by decide), xu_k (by decide), xu_k (by decide)])]
    exact x5
  · rw [xu_j (by decide), xu_t]
    rfl
  · rw [xu_k (by decide), xu_k (by decide), xu_t]
  · refine yv_r_up (fun j hj => ?_) x3
    rw [xu_k (by decide), xu_k (by decide), xq_upd_n (by omega), c1 85 j (by omega) (by decide), k85]
  · rcases List.mem_cons.mp h with q | q
    · subst q
      exact ⟨hs.1, by omega⟩
    · exact ho o (x4 o q)
  · show sz' + ((yk_fl (yk_bd s) W V).1.length + 1) ≤ _
    omega
theorem yg_behind (hS : yg_S e I sz (false, dp, cm, dg, V, W)) (hn : sz + W.length < 40) (hs : 0 ≤ s.toInt ∧ s.toInt ≤ 255) : ∃ a I', xq_D xqP (d + 4) 55 [.ref 83, .int s] (I, J, R) = some (some (.int a), I', J, R) ∧ yg_fr I I' ∧ yg_P e (sz + W.length + 1) (yk_1 e s (false, dp, cm, dg, V, W)) a I' := by
  rw [qX3_takeBehindThing_83_eq, yg_digit, xb_I1]
  unfold yk_1
  dsimp only
  by_cases g1 : 48 ≤ s.toInt ∧ s.toInt ≤ 57
  · rw [if_pos g1, if_neg (by decide), if_pos g1]
    obtain ⟨a, I', x1, x2, x3, x4⟩ := yg_more (d := d + 2) (J := J) (R := R) hS hn g1
    rw [x2, xb_I1, if_pos x1]
    refine ⟨a, I', rfl, x3, ?_⟩
    cases V <;> exact x4
  rw [if_neg g1, if_pos rfl, if_neg g1]
  -- the digits are forgotten
  have hS0 : yg_S e (xq_upd I 83 7 0) sz (false, dp, cm, 0, V, W) := by
    obtain ⟨⟨h8, h6, hdp, h87⟩, ⟨h7, hdg, hdig⟩, ⟨h4, hV⟩, h5, hr, ho⟩ := hS
    refine ⟨⟨?_, ?_, hdp, fun j hj => ?_⟩, ⟨?_, Nat.zero_le _, fun _ z => absurd z (by show ¬ 1 ≤ 0; decide)⟩, ⟨?_, ?_⟩, ?_, ?_, ho⟩
    · rw [xu_j (by decide)]; exact h8
    · rw [xu_j (by decide)]; exact h6
    · rw [xu_k (by decide)]; exact h87 j hj
    · exact xu_t
    · rw [xu_j (by decide)]; exact h4
    · rw [yv_c_up (F := I 84) (fun j hj => by rw [xu_k (by decide)])]
      exact hV
    · rw [xu_j (by decide)]; exact h5
    · exact yv_r_up (fun j hj => by rw [xu_k (by decide)]) hr
  have hf0 : yg_fr I (xq_upd I 83 7 0) := fun k j hk => by rw [xq_upd_n (by omega)]
  by_cases g2 : s = 41
  · rw [if_neg (fun z => z g2), if_pos g2]
    show ∃ a I', xq_bI (xq_D xqP (d + 3) 46 [.ref 83] (xq_upd I 83 7 0, J, R)) _ = _ ∧ _
    obtain ⟨a, I', x1, x2, x3, x4⟩ := yg_close (d := d) (J := J) (R := R) hS0 hn
    rw [x2, xb_I1, if_pos x1]
    exact ⟨a, I', rfl, fun k j hk => (x3 k j hk).trans (hf0 k j hk), x4⟩
  rw [if_pos g2, if_neg g2, yg_binding, xb_I1]
  have hbd := yg_bd s
  have hz : (Int32.ofNat (yk_bd s) = (0 : Int32)) ↔ yk_bd s = 0 := by
    constructor
    · intro z
      have := congrArg Int32.toInt z
      rw [xt_nat (by omega)] at this
      have e0 : (0 : Int32).toInt = 0 := by decide
      omega
    · intro z
      rw [z]
      rfl
  have h1 : (Int32.ofNat (yk_bd s) = (1 : Int32)) ↔ yk_bd s = 1 := by
    constructor
    · intro z
      have := congrArg Int32.toInt z
      rw [xt_nat (by omega)] at this
      have e0 : (1 : Int32).toInt = 1 := by decide
      omega
    · intro z
      rw [z]
      rfl
  by_cases g3 : yk_bd s = 0
  · rw [if_pos (hz.mpr g3), if_pos (Or.inl g3)]
    exact ⟨0, _, rfl, hf0, rfl⟩
  rw [if_neg (fun z => g3 (hz.mp z))]
  have hS9 := hS0
  obtain ⟨⟨h8, h6, hdp, h87⟩, -⟩ := hS9
  have hdp : dp ≤ 4 := hdp
  have h6 : xq_upd I 83 7 0 83 6 = Int32.ofNat dp := h6
  have h87 : xq_upd I 83 7 0 87 dp = yg_b (cm dp) := h87 dp (Nat.le_refl _)
  have b1 := xt_nat (n := dp) (by omega)
  have b2 : (Int32.ofNat dp).toInt.toNat = dp := by omega
  have hs8 : 8 ≤ s.toInt := by
    unfold yk_bd at g3
    have hne : ∀ c : Int32, s = c → 8 ≤ c.toInt → 8 ≤ s.toInt := fun c z hc => by rw [z]; exact hc
    by_cases q1 : s = 60 ∨ s = 61 ∨ s = 62
    · rcases q1 with q | q | q
      · exact hne _ q (by decide)
      · exact hne _ q (by decide)
      · exact hne _ q (by decide)
    rw [if_neg q1] at g3
    by_cases q2 : s = 43 ∨ s = 45
    · rcases q2 with q | q
      · exact hne _ q (by decide)
      · exact hne _ q (by decide)
    rw [if_neg q2] at g3
    by_cases q3 : s = 42 ∨ s = 47
    · rcases q3 with q | q
      · exact hne _ q (by decide)
      · exact hne _ q (by decide)
    rw [if_neg q3] at g3
    by_cases q4 : s = 256
    · exact hne _ q4 (by decide)
    · rw [if_neg q4] at g3
      exact absurd rfl g3
  have fin : ¬ (yk_bd s = 1 ∧ cm dp = true) → ∃ a I', qX3_takeBehindThing_83_h60 (d + 3) s (Int32.ofNat (yk_bd s)) (xq_upd I 83 7 0, J, R) = some (some (.int a), I', J, R) ∧ yg_fr I I' ∧ yg_P e (sz + W.length + 1) (if yk_bd s = 0 ∨ yk_bd s = 1 ∧ cm dp = true then none else some (true, dp, yk_up cm dp (cm dp || yk_bd s == 1), 0, (yk_fl (yk_bd s) W V).2, s :: (yk_fl (yk_bd s) W V).1)) a I' := by
    intro hc
    rw [if_neg (fun z => z.elim g3 hc), qX3_takeBehindThing_83_h60_eq]
    show ∃ a I', (if 0 ≤ (xq_upd I 83 7 0 83 6).toInt ∧ (xq_upd I 83 7 0 83 6).toInt < ((5 : Nat) : Int) then (if ¬ xq_upd I 83 7 0 87 (xq_upd I 83 7 0 83 6).toInt.toNat = 0 then qX3_takeBehindThing_83_h90 (d + 3) s (Int32.ofNat (yk_bd s)) 1 (xq_upd I 83 7 0 83 6) (xq_upd I 83 7 0, J, R) else qX3_takeBehindThing_83_h90 (d + 3) s (Int32.ofNat (yk_bd s)) (if ¬ Int32.ofNat (yk_bd s) = 1 then 0 else 1) (xq_upd I 83 7 0 83 6) (xq_upd I 83 7 0, J, R)) else none) = _ ∧ _
    rw [h6, b2, b1, if_pos (by omega), h87]
    cases hcm : cm dp with
    | true =>
      rw [if_pos (show ¬ yg_b true = 0 by decide)]
      obtain ⟨I', x1, x2, x3⟩ := yg_op (d := d + 1) (J := J) (R := R) (s := s) (v := 1) hS0 hn ⟨hs8, hs.2⟩ (by omega) (if_pos hcm).symm
      rw [hcm] at x3
      exact ⟨1, I', x1, fun k j hk => (x2 k j hk).trans (hf0 k j hk), x3⟩
    | false =>
      rw [if_neg (show ¬ ¬ yg_b false = 0 by decide)]
      obtain ⟨I', x1, x2, x3⟩ := yg_op (d := d + 1) (J := J) (R := R) (s := s) (v := if ¬ Int32.ofNat (yk_bd s) = (1 : Int32) then 0 else 1) hS0 hn ⟨hs8, hs.2⟩ (by omega) (if_neg (show ¬ cm dp = true by rw [hcm]; decide)).symm
      rw [hcm] at x3
      exact ⟨1, I', x1, fun k j hk => (x2 k j hk).trans (hf0 k j hk), x3⟩
  by_cases g4 : yk_bd s = 1
  · rw [if_neg (fun z => z (h1.mpr g4))]
    show ∃ a I', (if 0 ≤ (xq_upd I 83 7 0 83 6).toInt ∧ (xq_upd I 83 7 0 83 6).toInt < ((5 : Nat) : Int) then (if xq_upd I 83 7 0 87 (xq_upd I 83 7 0 83 6).toInt.toNat = 0 then qX3_takeBehindThing_83_h60 (d + 3) s (Int32.ofNat (yk_bd s)) (xq_upd I 83 7 0, J, R) else some (some (.int 0), xq_upd I 83 7 0, J, R)) else none) = _ ∧ _
    rw [h6, b2, b1, if_pos (by omega), h87]
    cases hcm : cm dp with
    | true =>
      rw [if_neg (show ¬ yg_b true = 0 by decide), if_pos (Or.inr ⟨g4, rfl⟩)]
      exact ⟨0, _, rfl, hf0, rfl⟩
    | false =>
      have := fin (fun z => by rw [hcm] at z; exact absurd z.2 (by decide))
      rw [hcm] at this
      rw [if_pos (show yg_b false = 0 by decide)]
      exact this
  · rw [if_pos (fun z => g4 (h1.mp z))]
    exact fin (fun z => g4 z.1)
end YGC
