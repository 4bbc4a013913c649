/-! THE RULE: the class's reader, sign by sign -/
def yg_fr (I I' : Nat → Nat → Int32) : Prop := ∀ k j, ¬ (83 ≤ k ∧ k ≤ 87) → I' k j = I k j
def yg_b (v : Bool) : Int32 := if v = true then 1 else 0
/-- the last code is a number of so many digits -/
def yg_n (I : Nat → Nat → Int32) (sz dg : Nat) : Prop := 0 < sz ∧ 0 ≤ (I 84 (sz - 1)).toInt ∧ (I 84 (sz - 1)).toInt < if dg = 1 then 10 else if dg = 2 then 100 else 1000
def yg_S (e : Nat → Int32) (I : Nat → Nat → Int32) (sz : Nat) (Q : yk_Q) : Prop := (I 83 8 = yg_b Q.1 ∧ I 83 6 = Int32.ofNat Q.2.1 ∧ Q.2.1 ≤ 4 ∧ ∀ j, j ≤ Q.2.1 → I 87 j = yg_b (Q.2.2.1 j)) ∧ (I 83 7 = Int32.ofNat Q.2.2.2.1 ∧ Q.2.2.2.1 ≤ 3 ∧ (Q.1 = false → 1 ≤ Q.2.2.2.1 → yg_n I sz Q.2.2.2.1)) ∧ (I 83 4 = Int32.ofNat sz ∧ Q.2.2.2.2.1 = yk_evl e (yv_c (I 84) sz)) ∧ I 83 5 = Int32.ofNat Q.2.2.2.2.2.length ∧ yv_r (I 85) Q.2.2.2.2.2 ∧ ∀ o ∈ Q.2.2.2.2.2, 8 ≤ o.toInt ∧ o.toInt ≤ 256
def yg_P (e : Nat → Int32) (n : Nat) (q : Option yk_Q) (a : Int32) (I' : Nat → Nat → Int32) : Prop := match q with
  | none => a = 0
  | some Q' => a = 1 ∧ ∃ sz', yg_S e I' sz' Q' ∧ sz' + Q'.2.2.2.2.2.length ≤ n
theorem yg_ixd {s : Int32} (h : s.toInt ≤ 57) : xt_ix s = -1 := by
  have hne : ∀ c : Int32, 58 ≤ c.toInt → ¬ s = c := fun c hc z => by rw [z] at h; omega
  unfold xt_ix
  rw [if_neg (hne 104 (by decide)), if_neg (hne 116 (by decide)), if_neg (hne 119 (by decide)), if_neg (hne 109 (by decide)), if_neg (hne 105 (by decide)), if_neg (hne 110 (by decide)), if_neg (hne 99 (by decide))]
theorem yg_nar0 : vp_nar .boolean (0 : Int32) = 0 := by decide
theorem yg_nar1 : vp_nar .boolean (1 : Int32) = 1 := by decide
theorem yg_evn {e : Nat → Int32} {c : Int32} {V : List Int32} (h : 0 ≤ c.toInt) : yk_ev e c V = c :: V := if_pos h
theorem yg_evi {e : Nat → Int32} {i : Nat} {V : List Int32} (h : i < 7) : yk_ev e ((-1 : Int32) - Int32.ofNat i) V = e i :: V := by
  have b1 := xt_nat (n := i) (by omega)
  have e1 : ((-1 : Int32) - Int32.ofNat i).toInt = -1 - (i : Int) := by
    rw [xt_sub (by rw [b1, show ((-1 : Int32)).toInt = -1 by decide]; omega) (by rw [b1, show ((-1 : Int32)).toInt = -1 by decide]; omega), b1]
    rfl
  have e2 : (-1 : Int32) - ((-1 : Int32) - Int32.ofNat i) = Int32.ofNat i := by grind
  unfold yk_ev
  rw [if_neg (by omega), if_pos (by omega), e2, b1]
  rfl
section YGB
variable {d : Nat} {e : Nat → Int32} {I : Nat → Nat → Int32} {J : Nat → Nat → Int64} {R : Nat → Nat → Nat} {s : Int32} {sz dp dg : Nat} {cm : Nat → Bool} {V W : List Int32}
theorem yg_rd {b : Int32} {S : xq_S} : xq_D xqP (d + 1) 54 [.ref 83, .int b] S = qX3_reckonDownTo_83_h0 d b S := by
  rw [qX3_reckonDownTo_83_eq, qX3_reckonDownTo_83_h0_eq]
/-- a code more -/
theorem yg_code {c : Int32} {n : Nat} : yv_c (xq_upd (xq_upd I 84 sz c) 83 4 (Int32.ofNat n) 84) (sz + 1) = c :: yv_c (I 84) sz := by
  show xq_upd (xq_upd I 84 sz c) 83 4 (Int32.ofNat n) 84 sz :: yv_c (xq_upd (xq_upd I 84 sz c) 83 4 (Int32.ofNat n) 84) sz = _
  rw [yv_c_up (F := I 84) (fun j hj => by rw [xu_k (by decide), xq_upd_n (by omega)]), xu_k (by decide), xu_t]
theorem yg_thing (hS : yg_S e I sz (true, dp, cm, dg, V, W)) (hn : sz + W.length < 40) (hs : 0 ≤ s.toInt ∧ s.toInt ≤ 255) : ∃ a I', xq_D xqP (d + 3) 57 [.ref 83, .int s] (I, J, R) = some (some (.int a), I', J, R) ∧ yg_fr I I' ∧ yg_P e (sz + W.length + 1) (yk_1 e s (true, dp, cm, dg, V, W)) a I' := by
  obtain ⟨⟨h8, h6, hdp, h87⟩, ⟨h7, hdg, hdig⟩, ⟨h4, hV⟩, h5, hr, ho⟩ := hS
  have hdp : dp ≤ 4 := hdp
  have hdg : dg ≤ 3 := hdg
  have h8 : I 83 8 = 1 := h8
  have h6 : I 83 6 = Int32.ofNat dp := h6
  have h7 : I 83 7 = Int32.ofNat dg := h7
  have h87 : ∀ j, j ≤ dp → I 87 j = yg_b (cm j) := h87
  have hV : V = yk_evl e (yv_c (I 84) sz) := hV
  have h5 : I 83 5 = Int32.ofNat W.length := h5
  have hr : yv_r (I 85) W := hr
  have ho : ∀ o ∈ W, 8 ≤ o.toInt ∧ o.toInt ≤ 256 := ho
  rw [qX3_takeThing_83_eq]
  unfold yk_1
  dsimp only
  by_cases g1 : s = 45
  · rw [if_neg (fun z => z g1), yg_await h5 (by omega), xb_V1, if_pos g1]
    refine ⟨1, _, rfl, fun k j hk => ?_, rfl, sz, ⟨⟨?_, ?_, hdp, fun j hj => ?_⟩, ⟨?_, hdg, fun z => by cases z⟩, ⟨?_, ?_⟩, ?_, ⟨?_, ?_⟩, fun o h => ?_⟩, ?_⟩
    · rw [xq_upd_n (by omega), xq_upd_n (by omega)]
    · rw [xu_j (by decide), xu_k (by decide)]; exact h8
    · rw [xu_j (by decide), xu_k (by decide)]; exact h6
    · rw [xu_k (by decide), xu_k (by decide)]; exact h87 j hj
    · rw [xu_j (by decide), xu_k (by decide)]; exact h7
    · rw [xu_j (by decide), xu_k (by decide)]; exact h4
    · show V = _
      rw [yv_c_up (F := I 84) (fun j hj => by rw [xu_k (by decide), xu_k (by decide)])]
      exact hV
    · exact xu_t
    · rw [xu_k (by decide), xu_t]
    · exact yv_r_up (fun j hj => by rw [xu_k (by decide), xq_upd_n (by omega)]) hr
    · rcases List.mem_cons.mp h with q | q
      · subst q; decide
      · exact ho o q
    · show sz + (W.length + 1) ≤ _
      omega
  rw [if_pos g1, if_neg g1]
  by_cases g2 : s = 40
  · rw [if_neg (fun z => z g2), if_pos g2, qX3_openBracket_83_eq]
    show ∃ a I', xq_bI (if I 83 6 < 4 then _ else _) _ = _ ∧ _
    have hlt : (Int32.ofNat dp < (4 : Int32)) ↔ dp < 4 := xr_lt (a := dp) (b := 4) (by omega) (by omega)
    rw [h6]
    by_cases g3 : dp < 4
    · have a1 : Int32.ofNat dp + (1 : Int32) = Int32.ofNat (dp + 1) := (Int32.ofNat_add dp 1).symm
      have b1 := xt_nat (n := dp + 1) (by omega)
      have b2 : (Int32.ofNat (dp + 1)).toInt.toNat = dp + 1 := by omega
      have hI : (I, J, R).1 83 6 = Int32.ofNat dp := h6
      rw [if_pos (hlt.mpr g3), hI, a1, b2, b1, if_pos (by omega), if_pos g3, yg_nar0]
      have f5 : xq_upd (xq_upd I 83 6 (Int32.ofNat (dp + 1))) 87 (dp + 1) 0 83 5 = Int32.ofNat W.length := by
        rw [xu_k (by decide), xu_j (by decide)]; exact h5
      show ∃ a I', xq_bI (xq_bV (xq_D xqP (d + 1) 43 [.ref 83, .int 40] (xq_upd (xq_upd I 83 6 (Int32.ofNat (dp + 1))) 87 (dp + 1) 0, J, R)) _) _ = _ ∧ _
      rw [yg_await f5 (by omega), xb_V1, xb_I1, if_pos (Or.inr rfl)]
      refine ⟨1, _, rfl, fun k j hk => ?_, rfl, sz, ⟨⟨?_, ?_, (by show dp + 1 ≤ 4; omega), fun j hj => ?_⟩, ⟨?_, hdg, fun z => by cases z⟩, ⟨?_, ?_⟩, ?_, ⟨?_, ?_⟩, fun o h => ?_⟩, ?_⟩
      · rw [xq_upd_n (by omega), xq_upd_n (by omega), xq_upd_n (by omega), xq_upd_n (by omega)]
      · rw [xu_j (by decide), xu_k (by decide), xu_k (by decide), xu_j (by decide)]; exact h8
      · rw [xu_j (by decide), xu_k (by decide), xu_k (by decide), xu_t]
      · have hj : j ≤ dp + 1 := hj
        rw [xu_k (by decide), xu_k (by decide)]
        show _ = yg_b (if j = dp + 1 then false else cm j)
        by_cases g4 : j = dp + 1
        · subst g4
          rw [xu_t, if_pos rfl]
          rfl
        · rw [xu_j g4, xu_k (by decide), if_neg g4]
          exact h87 j (by omega)
      · rw [xu_j (by decide), xu_k (by decide), xu_k (by decide), xu_j (by decide)]; exact h7
      · rw [xu_j (by decide), xu_k (by decide), xu_k (by decide), xu_j (by decide)]; exact h4
      · show V = _
        rw [yv_c_up (F := I 84) (fun j hj => by rw [xu_k (by decide), xu_k (by decide), xu_k (by decide), xu_k (by decide)])]
        exact hV
      · exact xu_t
      · rw [xu_k (by decide), xu_t]
      · exact yv_r_up (fun j hj => by rw [xu_k (by decide), xq_upd_n (by omega), xu_k (by decide), xu_k (by decide)]) hr
      · rcases List.mem_cons.mp h with q | q
        · subst q; decide
        · exact ho o q
      · show sz + (W.length + 1) ≤ _
        omega
    · rw [if_neg (fun z => g3 (hlt.mp z)), if_neg g3, xb_I1, if_pos (Or.inl rfl)]
      exact ⟨0, I, rfl, fun _ _ _ => rfl, rfl⟩
  rw [if_pos g2, if_neg g2]
  have e0 : (0 : Int32).toInt = 0 := by decide
  have e255 : (255 : Int32).toInt = 255 := by decide
  rw [if_pos (show 0 ≤ s ∧ s ≤ 255 from ⟨xt_le.mpr (by omega), xt_le.mpr (by omega)⟩), yg_digit, xb_I1]
  -- a thing or a digit: the code more
  have key : ∀ (c : Int32) (g : Nat) (v : Int32), (g = 0 ∨ (g = 1 ∧ 0 ≤ c.toInt ∧ c.toInt < 10)) → yk_ev e c V = v :: V → ∃ a I', qX3_takeThing_83_h75 (d + 2) c (xq_upd I 83 7 (Int32.ofNat g), J, R) = some (some (.int a), I', J, R) ∧ yg_fr I I' ∧ yg_P e (sz + W.length + 1) (some (false, dp, cm, g, v :: V, W)) a I' := by
    intro c g v hg hv
    rw [qX3_takeThing_83_h75_eq]
    have f4 : xq_upd I 83 7 (Int32.ofNat g) 83 4 = Int32.ofNat sz := (xu_j (by decide)).trans h4
    rw [yg_emit f4 (by omega), xb_V1]
    refine ⟨1, xq_upd (xq_upd (xq_upd (xq_upd I 83 7 (Int32.ofNat g)) 84 sz c) 83 4 (Int32.ofNat (sz + 1))) 83 8 0, rfl, fun k j hk => ?_, rfl, sz + 1, ⟨⟨?_, ?_, hdp, fun j hj => ?_⟩, ⟨?_, ?_, fun _ z => ?_⟩, ⟨?_, ?_⟩, ?_, ?_, ho⟩, ?_⟩
    · rw [xq_upd_n (by omega), xq_upd_n (by omega), xq_upd_n (by omega), xq_upd_n (by omega)]
    · exact xu_t
    · rw [xu_j (by decide), xu_j (by decide), xu_k (by decide), xu_j (by decide)]; exact h6
    · rw [xu_k (by decide), xu_k (by decide), xu_k (by decide), xu_k (by decide)]; exact h87 j hj
    · rw [xu_j (by decide), xu_j (by decide), xu_k (by decide), xu_t]
    · show g ≤ 3
      omega
    · have z : 1 ≤ g := z
      rcases hg with q | ⟨q, q1, q2⟩
      · omega
      · subst q
        refine ⟨Nat.succ_pos _, ?_⟩
        rw [show sz + 1 - 1 = sz by omega, xu_k (by decide), xu_k (by decide), xu_t, if_pos rfl]
        exact ⟨q1, q2⟩
    · rw [xu_j (by decide), xu_t]
    · show v :: V = _
      have ec : yv_c (xq_upd (xq_upd (xq_upd (xq_upd I 83 7 (Int32.ofNat g)) 84 sz c) 83 4 (Int32.ofNat (sz + 1))) 83 8 0 84) (sz + 1) = c :: yv_c (I 84) sz := by
        rw [yv_c_up (F := xq_upd (xq_upd (xq_upd I 83 7 (Int32.ofNat g)) 84 sz c) 83 4 (Int32.ofNat (sz + 1)) 84) (fun j hj => by rw [xu_k (by decide)]), yg_code]
        rw [yv_c_up (F := I 84) (fun j hj => by rw [xu_k (by decide)])]
      show _ = yk_evl e (yv_c (xq_upd (xq_upd (xq_upd (xq_upd I 83 7 (Int32.ofNat g)) 84 sz c) 83 4 (Int32.ofNat (sz + 1))) 83 8 0 84) (sz + 1))
      rw [ec]
      show _ = yk_ev e c (yk_evl e (yv_c (I 84) sz))
      rw [← hV, hv]
    · rw [xu_j (by decide), xu_j (by decide), xu_k (by decide), xu_j (by decide)]; exact h5
    · exact yv_r_up (fun j hj => by rw [xu_k (by decide), xu_k (by decide), xu_k (by decide), xu_k (by decide)]) hr
    · show sz + 1 + W.length ≤ _
      omega
  by_cases g3 : 48 ≤ s.toInt ∧ s.toInt ≤ 57
  · rw [if_pos g3, if_pos g3, if_pos (by decide), yg_ixd g3.2, qX3_takeThing_83_h47_eq, if_neg (show ¬ (0 : Int32) ≤ -1 by decide)]
    have e48 : (s - 48).toInt = s.toInt - 48 := xt_sub (by rw [show (48 : Int32).toInt = 48 by decide]; omega) (by rw [show (48 : Int32).toInt = 48 by decide]; omega)
    exact key (s - 48) 1 (s - 48) (Or.inr ⟨rfl, by omega, by omega⟩) (yg_evn (by omega))
  · rw [if_neg g3, if_neg g3, if_neg (fun z => z rfl)]
    rcases yk_ixl (s := s) with ⟨i, k1, k2, k3⟩ | ⟨k1, k3⟩
    · have k3 : xt_ix s = Int32.ofNat i := k3
      have hle : (0 : Int32) ≤ Int32.ofNat i := xt_le.mpr (by rw [e0, xt_nat (by omega)]; omega)
      rw [k3, if_pos hle, qX3_takeThing_83_h47_eq, if_pos hle, if_pos hle, k1]
      exact key _ 0 (e i) (Or.inl rfl) (yg_evi k2)
    · have k3 : xt_ix s = -1 := k3
      rw [k3, if_neg (show ¬ (0 : Int32) ≤ -1 by decide), k1]
      exact ⟨0, I, rfl, fun _ _ _ => rfl, rfl⟩
end YGB
