/-! value() of a rule: as a stack of values -/
def yk_ev (e : Nat → Int32) (c : Int32) (V : List Int32) : List Int32 := if 0 ≤ c.toInt then c :: V else if -7 ≤ c.toInt then e (-1 - c).toInt.toNat :: V else yk_app (-c) V
def yk_evl (e : Nat → Int32) : List Int32 → List Int32
  | [] => []
  | c :: C => yk_ev e c (yk_evl e C)
/-- a list that lies in an array, the last one first -/
def yv_r (F : Nat → Int32) : List Int32 → Prop
  | [] => True
  | v :: t => F t.length = v ∧ yv_r F t
def yv_c (F : Nat → Int32) : Nat → List Int32
  | 0 => []
  | n + 1 => F n :: yv_c F n
theorem yv_c_len {F : Nat → Int32} : ∀ n, (yv_c F n).length = n
  | 0 => rfl
  | n + 1 => by
    show (yv_c F n).length + 1 = _
    rw [yv_c_len n]
theorem yv_r_c {F : Nat → Int32} : ∀ n, yv_r F (yv_c F n)
  | 0 => trivial
  | n + 1 => ⟨by rw [yv_c_len], yv_r_c n⟩
theorem yv_r_up {F G : Nat → Int32} : ∀ {V : List Int32}, (∀ j, j < V.length → G j = F j) → yv_r F V → yv_r G V
  | [], _, _ => trivial
  | v :: t, h, hr => ⟨(h t.length (by show t.length < t.length + 1; omega)).trans hr.1, yv_r_up (fun j hj => h j (by show j < t.length + 1; omega)) hr.2⟩
theorem yv_r_un {F : Nat → Int32} : ∀ {V W : List Int32}, V.length = W.length → yv_r F V → yv_r F W → V = W
  | [], [], _, _, _ => rfl
  | v :: t, w :: u, h, h1, h2 => by
    have h : t.length = u.length := Nat.succ.inj h
    have e1 : v = w := by rw [← h1.1, ← h2.1, h]
    rw [e1, yv_r_un h h1.2 h2.2]
  | [], _ :: _, h, _, _ => by cases h
  | _ :: _, [], h, _, _ => by cases h
theorem yk_app_len {o : Int32} {V : List Int32} : (yk_app o V).length ≤ V.length := by
  unfold yk_app
  split
  · split <;> simp
  · split <;> simp
theorem yv_last {F : Nat → Int32} : ∀ {V : List Int32}, yv_r F V → 0 < V.length → V.getLast? = some (F 0)
  | [v], h, _ => by
    rw [← h.1]
    rfl
  | v :: w :: t, h, _ => by
    have := yv_last (V := w :: t) h.2 (Nat.succ_pos _)
    rw [List.getLast?_cons_cons]
    exact this
section YVA
variable {d : Nat} {I : Nat → Nat → Int32} {J : Nat → Nat → Int64} {R : Nat → Nat → Nat}
theorem yv_reckon {o x y : Int32} {S : xq_S} : xq_D xqP (d + 1) 53 [.int o, .int x, .int y] S = some (some (.int (yk_bin o x y)), S) := by
  have e : ∀ n : Int32, (o.toInt = n.toInt) = (o = n) := fun n => propext xt_eq.symm
  rw [qX3_reckon_eq]
  have e42 := e 42
  have e43 := e 43
  have e45 := e 45
  have e60 := e 60
  have e61 := e 61
  have e62 := e 62
  rw [show (42 : Int32).toInt = 42 by decide] at e42
  rw [show (43 : Int32).toInt = 43 by decide] at e43
  rw [show (45 : Int32).toInt = 45 by decide] at e45
  rw [show (60 : Int32).toInt = 60 by decide] at e60
  rw [show (61 : Int32).toInt = 61 by decide] at e61
  rw [show (62 : Int32).toInt = 62 by decide] at e62
  simp only [e42, e43, e45, e60, e61, e62]
  unfold yk_bin
  by_cases h1 : o = 42
  · rw [if_pos h1, if_pos h1]
  rw [if_neg h1, if_neg h1]
  by_cases h2 : o = 43
  · rw [if_pos h2, if_pos h2]
  rw [if_neg h2, if_neg h2]
  by_cases h3 : o = 45
  · rw [if_pos h3, if_pos h3]
  rw [if_neg h3, if_neg h3]
  by_cases h4 : o = 60
  · rw [if_pos h4, if_pos h4]
    by_cases g : y ≤ x
    · rw [if_pos g, if_neg (Int32.not_lt.mpr g)]
    · rw [if_neg g, if_pos (Int32.not_le.mp g)]
  rw [if_neg h4, if_neg h4]
  by_cases h5 : o = 61
  · rw [if_pos h5, if_pos h5]
    by_cases g : x = y
    · rw [if_neg (fun z => z g), if_pos g]
    · rw [if_pos g, if_neg g]
  rw [if_neg h5, if_neg h5]
  by_cases h6 : o = 62
  · rw [if_pos h6, if_pos h6]
    by_cases g : x ≤ y
    · rw [if_pos g, if_neg (Int32.not_lt.mpr g)]
    · rw [if_neg g, if_pos (Int32.not_le.mp g)]
  rw [if_neg h6, if_neg h6]
  by_cases g : y = 0
  · rw [if_neg (fun z => z g), if_pos g]
  · rw [if_pos g, if_neg g, if_neg g]
end YVA
section YVB10
variable {d : Nat} {I : Nat → Nat → Int32} {J : Nat → Nat → Int64} {R : Nat → Nat → Nat}
theorem yv_push10 {n : Nat} {x : Int32} (hn : n < 40) : xq_D xqP (d + 1) 50 [.ref 10, .int (Int32.ofNat n), .int x] (I, J, R) = some (some (.int (Int32.ofNat (n + 1))), xq_upd I 13 n x, J, R) := by
  have a1 : Int32.ofNat n + (1 : Int32) = Int32.ofNat (n + 1) := (Int32.ofNat_add n 1).symm
  have b1 := xt_nat (n := n) (by omega)
  have b2 : (Int32.ofNat n).toInt.toNat = n := by omega
  rw [qX3_push_eq, if_pos ((xr_lt (by omega) (by omega)).mpr hn), if_pos (by omega), a1, b2]
theorem yv_value10 {n : Nat} (hn : n ≤ 40) : ∀ (m k : Nat) (V : List Int32) (I : Nat → Nat → Int32), k + m = n → I 10 4 = Int32.ofNat n → V = yk_evl (I 7) (yv_c (I 11) k) → V.length ≤ k → yv_r (I 13) V → ∃ I', qX3_value_10_h4 (d + 1) (Int32.ofNat V.length) (Int32.ofNat k) (I, J, R) = some (some (.int (I' 13 0)), I', J, R) ∧ (∀ k j, ¬ k = 13 → I' k j = I k j) ∧ yv_r (I' 13) (yk_evl (I 7) (yv_c (I 11) n)) ∧ (yk_evl (I 7) (yv_c (I 11) n)).length ≤ n
  | 0, k, V, I, hk, hI, hV, hl, hr => by
    have e : k = n := by omega
    subst e
    have hI' : (I, J, R).1 10 4 = Int32.ofNat k := hI
    refine ⟨I, ?_, fun _ _ _ => rfl, by rw [← hV]; exact hr, by rw [← hV]; exact hl⟩
    rw [qX3_value_10_h4_eq, hI', if_pos (Int32.le_refl _)]
  | m + 1, k, V, I, hk, hI, hV, hl, hr => by
    have hI' : (I, J, R).1 10 4 = Int32.ofNat n := hI
    have b1 := xt_nat (n := k) (by omega)
    have b2 : (Int32.ofNat k).toInt.toNat = k := by omega
    have b3 := xt_nat (n := V.length) (by omega)
    have b4 : (Int32.ofNat V.length).toInt.toNat = V.length := by omega
    have a1 : Int32.ofNat k + (1 : Int32) = Int32.ofNat (k + 1) := (Int32.ofNat_add k 1).symm
    have hle : ¬ Int32.ofNat n ≤ Int32.ofNat k := fun z => by
      have := (xr_le (by omega) (by omega)).mp z
      omega
    have em : ((-1 : Int32) - I 11 k).toInt = -1 - (I 11 k).toInt := by
      have := xt_in (x := I 11 k)
      rw [xt_sub (by rw [show ((-1 : Int32)).toInt = -1 by decide]; omega) (by rw [show ((-1 : Int32)).toInt = -1 by decide]; omega)]
      rfl
    have e0 : (0 : Int32).toInt = 0 := by decide
    -- what follows
    have go : ∀ (V' : List Int32) (F : Nat → Int32), V' = yk_ev (I 7) (I 11 k) V → V'.length ≤ k + 1 → yv_r F V' → ∃ I', qX3_value_10_h4 (d + 1) (Int32.ofNat V'.length) (Int32.ofNat (k + 1)) ((fun a b => if a = 13 then F b else I a b), J, R) = some (some (.int (I' 13 0)), I', J, R) ∧ (∀ k j, ¬ k = 13 → I' k j = I k j) ∧ yv_r (I' 13) (yk_evl (I 7) (yv_c (I 11) n)) ∧ (yk_evl (I 7) (yv_c (I 11) n)).length ≤ n := by
      intro V' F h1 h2 h3
      have hc : (fun b => (fun a b => if a = 13 then F b else I a b) 11 b) = I 11 := by
        funext b
        exact if_neg (by decide)
      have h7 : (fun b => (fun a b => if a = 13 then F b else I a b) 7 b) = I 7 := by
        funext b
        exact if_neg (by decide)
      obtain ⟨I', g0, g1, g2, g3⟩ := yv_value10 hn m (k + 1) V' (fun a b => if a = 13 then F b else I a b) (by omega) (by show (if 10 = 13 then _ else _) = _; rw [if_neg (by decide)]; exact hI) (by
        rw [h1, hV]
        show _ = yk_evl (fun b => (fun a b => if a = 13 then F b else I a b) 7 b) (yv_c (fun b => (fun a b => if a = 13 then F b else I a b) 11 b) (k + 1))
        rw [hc, h7]
        rfl) h2 (by
        have hs : (fun b => (fun a b => if a = 13 then F b else I a b) 13 b) = F := by
          funext b
          exact if_pos rfl
        show yv_r (fun b => (fun a b => if a = 13 then F b else I a b) 13 b) V'
        rw [hs]
        exact h3)
      refine ⟨I', g0, fun a b h => (g1 a b h).trans (if_neg h), ?_, ?_⟩
      · have g2 : yv_r (I' 13) (yk_evl (fun b => (fun a b => if a = 13 then F b else I a b) 7 b) (yv_c (fun b => (fun a b => if a = 13 then F b else I a b) 11 b) n)) := g2
        rw [hc, h7] at g2
        exact g2
      · have g3 : (yk_evl (fun b => (fun a b => if a = 13 then F b else I a b) 7 b) (yv_c (fun b => (fun a b => if a = 13 then F b else I a b) 11 b) n)).length ≤ n := g3
        rw [hc, h7] at g3
        exact g3
    have eF : ∀ (j : Nat) (x : Int32), xq_upd I 13 j x = fun a b => if a = 13 then (xr_up (I 13) j x) b else I a b := by
      intro j x
      funext a b
      unfold xq_upd xr_up
      by_cases h : a = 13
      · subst h
        by_cases hb : b = j <;> simp [hb]
      · simp [h]
    have eI : I = fun a b => if a = 13 then (I 13) b else I a b := by
      funext a b
      by_cases h : a = 13
      · subst h
        rw [if_pos rfl]
      · rw [if_neg h]
    have keep : ∀ (j : Nat) (x : Int32) (t : List Int32), t.length ≤ j → yv_r (I 13) t → yv_r (xr_up (I 13) j x) t := fun j x t h hr => yv_r_up (fun i hi => if_neg (by omega)) hr
    -- nothing done
    have skip : yk_ev (I 7) (I 11 k) V = V → ∃ I', qX3_value_10_h4 (d + 1) (Int32.ofNat V.length) (Int32.ofNat (k + 1)) (I, J, R) = some (some (.int (I' 13 0)), I', J, R) ∧ (∀ k j, ¬ k = 13 → I' k j = I k j) ∧ yv_r (I' 13) (yk_evl (I 7) (yv_c (I 11) n)) ∧ (yk_evl (I 7) (yv_c (I 11) n)).length ≤ n := by
      intro h
      have := go V (I 13) h.symm (by omega) hr
      rw [← eI] at this
      exact this
    have h128 : ∀ (x v : Int32) (I2 : Nat → Nat → Int32), qX3_value_10_h128 (d + 1) x v (I2, J, R) = qX3_value_10_h4 (d + 1) x (v + 1) (I2, J, R) := fun x v I2 => qX3_value_10_h128_eq _ _ _ _
    rw [qX3_value_10_h4_eq, hI', if_neg hle, b2, b1, if_pos (by omega)]
    show ∃ I', (if I 11 k < 0 then _ else _) = _ ∧ _
    by_cases hneg : I 11 k < 0
    · rw [if_pos hneg]
      have hneg' : (I 11 k).toInt < 0 := by
        have := xt_lt.mp hneg
        rw [e0] at this
        exact this
      by_cases h7 : -7 ≤ (I 11 k).toInt
      · rw [if_neg (show ¬ Int32.ofNat 7 ≤ (-1 : Int32) - I 11 k by rw [xt_le, em, xt_nat (by decide)]; omega), qX3_value_10_h52_eq, em]
        have eix : ((-1 : Int32) - I 11 k).toInt.toNat = (-1 - (I 11 k).toInt).toNat := by rw [em]
        rw [if_pos (by omega), yv_push10 (by omega), xb_I1, h128, a1, eF]
        refine go (I 7 (-1 - (I 11 k).toInt).toNat :: V) _ ?_ (by show V.length + 1 ≤ k + 1; omega) ⟨if_pos rfl, keep _ _ _ (Nat.le_refl _) hr⟩
        unfold yk_ev
        rw [if_neg (by omega), if_pos h7, eix]
      · rw [if_pos (show Int32.ofNat 7 ≤ (-1 : Int32) - I 11 k by rw [xt_le, em, xt_nat (by decide)]; omega)]
        have eev : yk_ev (I 7) (I 11 k) V = yk_app (-(I 11 k)) V := by
          unfold yk_ev
          rw [if_neg (by omega), if_neg h7]
        have h92 : (-(I 11 k) = 256 → V = []) → ∃ I', qX3_value_10_h92 (d + 1) (Int32.ofNat V.length) (Int32.ofNat k) (I 11 k) (I, J, R) = some (some (.int (I' 13 0)), I', J, R) ∧ (∀ k j, ¬ k = 13 → I' k j = I k j) ∧ yv_r (I' 13) (yk_evl (I 7) (yv_c (I 11) n)) ∧ (yk_evl (I 7) (yv_c (I 11) n)).length ≤ n := by
          intro h256
          rw [qX3_value_10_h92_eq]
          match V, hV, hl, hr, b3, b4, go, skip, eev, h256 with
          | [], hV, hl, hr, b3, b4, go, skip, eev, h256 =>
            rw [if_pos (by decide), qX3_value_10_h128a_eq, a1]
            refine skip (eev.trans ?_)
            unfold yk_app
            split <;> rfl
          | [x], hV, hl, hr, b3, b4, go, skip, eev, h256 =>
            rw [if_pos (show Int32.ofNat [x].length ≤ (1 : Int32) from (by decide : Int32.ofNat 1 ≤ (1 : Int32))), qX3_value_10_h128a_eq, a1]
            refine skip (eev.trans ?_)
            unfold yk_app
            by_cases g : -(I 11 k) = 256
            · exact absurd (h256 g) (by simp)
            · rw [if_neg g]
          | y :: x :: t, hV, hl, hr, b3, b4, go, skip, eev, h256 =>
            have hlen : (y :: x :: t).length = t.length + 2 := rfl
            have c1 : ¬ Int32.ofNat (t.length + 2) ≤ (1 : Int32) := fun z => by
              have := (xr_le (b := 1) (by rw [hlen] at hl; omega) (by decide)).mp z
              omega
            have hlt : t.length + 2 ≤ k := hl
            have c2 : Int32.ofNat (t.length + 2) + (-1 : Int32) = Int32.ofNat (t.length + 1) := by
              rw [Int32.ofNat_add, Int32.ofNat_add]
              grind
            have c3 : Int32.ofNat (t.length + 1) - (1 : Int32) = Int32.ofNat t.length := by
              rw [Int32.ofNat_add]
              grind
            have d1 := xt_nat (n := t.length) (by omega)
            have d2 := xt_nat (n := t.length + 1) (by omega)
            have d3 : (Int32.ofNat t.length).toInt.toNat = t.length := by omega
            have d4 : (Int32.ofNat (t.length + 1)).toInt.toNat = t.length + 1 := by omega
            have n256 : ¬ -(I 11 k) = 256 := fun z => by
              have := h256 z
              cases this
            have r1 : I 13 (t.length + 1) = y := hr.1
            have r2 : I 13 t.length = x := hr.2.1
            rw [hlen, if_neg c1, c2, qX3_value_10_h100_eq, c3, d3, d4, d1, d2, if_pos (by omega), if_pos (by omega)]
            show ∃ I', xq_bI (xq_D xqP (d + 1) 53 [.int (-(I 11 k)), .int (I 13 t.length), .int (I 13 (t.length + 1))] (I, J, R)) _ = _ ∧ _
            rw [r1, r2, yv_reckon, xb_I1, if_pos (by omega), qX3_value_10_h128a_eq, a1]
            show ∃ I', qX3_value_10_h4 (d + 1) (Int32.ofNat (t.length + 1)) (Int32.ofNat (k + 1)) (xq_upd I 13 t.length (yk_bin (-(I 11 k)) x y), J, R) = _ ∧ _
            rw [eF]
            refine go (yk_bin (-(I 11 k)) x y :: t) _ ?_ (by show t.length + 1 ≤ k + 1; omega) ⟨if_pos rfl, keep _ _ _ (Nat.le_refl _) hr.2.2⟩
            rw [eev]
            unfold yk_app
            rw [if_neg n256]
        by_cases h256 : I 11 k = (-256 : Int32)
        · rw [if_neg (fun z => z h256)]
          have e256 : -(I 11 k) = 256 := by
            rw [h256]
            decide
          match V, hV, hl, hr, b3, b4, go, skip, eev, h92 with
          | [], hV, hl, hr, b3, b4, go, skip, eev, h92 =>
            rw [if_pos (show Int32.ofNat ([] : List Int32).length ≤ 0 by decide)]
            exact h92 (fun _ => rfl)
          | x :: t, hV, hl, hr, b3, b4, go, skip, eev, h92 =>
            have hlt : t.length + 1 ≤ k := hl
            have hlen : (x :: t).length = t.length + 1 := rfl
            have c1 : ¬ Int32.ofNat (t.length + 1) ≤ (0 : Int32) := fun z => by
              have := (xr_le (b := 0) (by omega) (by decide)).mp z
              omega
            have c3 : Int32.ofNat (t.length + 1) - (1 : Int32) = Int32.ofNat t.length := by
              rw [Int32.ofNat_add]
              grind
            have d1 := xt_nat (n := t.length) (by omega)
            have d3 : (Int32.ofNat t.length).toInt.toNat = t.length := by omega
            have r2 : I 13 t.length = x := hr.1
            rw [hlen, if_neg c1, c3, d3, d1, if_pos (by omega), if_pos (by omega), h128, a1]
            show ∃ I', qX3_value_10_h4 (d + 1) (Int32.ofNat (t.length + 1)) (Int32.ofNat (k + 1)) (xq_upd I 13 t.length (-(I 13 t.length)), J, R) = _ ∧ _
            rw [r2, eF]
            refine go (-x :: t) _ ?_ (by show t.length + 1 ≤ k + 1; omega) ⟨if_pos rfl, keep _ _ _ (Nat.le_refl _) hr.2⟩
            rw [eev]
            unfold yk_app
            rw [if_pos e256]
        · rw [if_pos h256]
          refine h92 (fun z => absurd ?_ h256)
          have : I 11 k = -(-(I 11 k)) := by grind
          rw [this, z]
    · rw [if_neg hneg, yv_push10 (by omega), xb_I1, h128, a1, eF]
      have hneg' : 0 ≤ (I 11 k).toInt := by
        have : ¬ (I 11 k).toInt < 0 := fun z => hneg (xt_lt.mpr (by rw [e0]; exact z))
        omega
      refine go (I 11 k :: V) _ ?_ (by show V.length + 1 ≤ k + 1; omega) ⟨if_pos rfl, keep _ _ _ (Nat.le_refl _) hr⟩
      unfold yk_ev
      rw [if_pos hneg']
theorem yv_val10 {n : Nat} {I : Nat → Nat → Int32} (hn : n ≤ 40) (hI : I 10 4 = Int32.ofNat n) : ∃ v I', xq_D xqP (d + 2) 58 [.ref 10, .ref 7] (I, J, R) = some (some (.int v), I', J, R) ∧ (∀ k j, ¬ k = 13 → I' k j = I k j) ∧ ∀ x, yk_evl (I 7) (yv_c (I 11) n) = [x] → v = x := by
  obtain ⟨I', g0, g1, g2, g3⟩ := yv_value10 (d := d) (J := J) (R := R) hn n 0 [] I (by omega) hI rfl (Nat.le_refl _) trivial
  refine ⟨I' 13 0, I', ?_, g1, fun x hx => ?_⟩
  · rw [qX3_value_10_eq]
    exact g0
  · rw [hx] at g2
    exact g2.1
end YVB10
