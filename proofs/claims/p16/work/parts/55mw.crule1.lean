/-! THE RULE: the class's reader (cell 83), by the reference's automaton -/
theorem yg_app {e : Nat → Int32} {o : Int32} {V : List Int32} (h : 8 ≤ o.toInt) (h2 : o.toInt ≤ 256) : yk_ev e (-o) V = yk_app o V := by
  have e1 : (-o).toInt = -o.toInt := by
    have := xt_sub (x := 0) (y := o) (by rw [show (0 : Int32).toInt = 0 by decide]; omega) (by rw [show (0 : Int32).toInt = 0 by decide]; omega)
    rw [show (0 : Int32).toInt = 0 by decide] at this
    have e2 : (0 : Int32) - o = -o := by grind
    rw [← e2, this]
    omega
  have e3 : -(-o) = o := by grind
  unfold yk_ev
  rw [if_neg (by omega), if_neg (by omega), e3]
theorem yg_bd (o : Int32) : yk_bd o ≤ 4 := by
  unfold yk_bd
  split
  · omega
  · split
    · omega
    · split
      · omega
      · split <;> omega
theorem yv_c_up {F G : Nat → Int32} : ∀ {n : Nat}, (∀ j, j < n → G j = F j) → yv_c G n = yv_c F n
  | 0, _ => rfl
  | n + 1, h => by
    show G n :: yv_c G n = F n :: yv_c F n
    rw [h n (by omega), yv_c_up (fun j hj => h j (by omega))]
section YGA
variable {d : Nat} {I : Nat → Nat → Int32} {J : Nat → Nat → Int64} {R : Nat → Nat → Nat}
theorem yg_await {n : Nat} {x : Int32} (h : I 83 5 = Int32.ofNat n) (hn : n < 40) : xq_D xqP (d + 1) 43 [.ref 83, .int x] (I, J, R) = some (none, xq_upd (xq_upd I 85 n x) 83 5 (Int32.ofNat (n + 1)), J, R) := by
  have a1 : Int32.ofNat n + (1 : Int32) = Int32.ofNat (n + 1) := (Int32.ofNat_add n 1).symm
  have b1 := xt_nat (n := n) (by omega)
  have b2 : (Int32.ofNat n).toInt.toNat = n := by omega
  have hI : (I, J, R).1 83 5 = Int32.ofNat n := h
  have hle : ¬ Int32.ofNat 40 ≤ Int32.ofNat n := fun z => by
    have := (xr_le (by omega) (by omega)).mp z
    omega
  rw [qX3_await_83_eq, hI, if_neg hle, b2, b1, if_pos (by omega), a1]
theorem yg_emit {n : Nat} {x : Int32} (h : I 83 4 = Int32.ofNat n) (hn : n < 40) : xq_D xqP (d + 1) 47 [.ref 83, .int x] (I, J, R) = some (none, xq_upd (xq_upd I 84 n x) 83 4 (Int32.ofNat (n + 1)), J, R) := by
  have a1 : Int32.ofNat n + (1 : Int32) = Int32.ofNat (n + 1) := (Int32.ofNat_add n 1).symm
  have b1 := xt_nat (n := n) (by omega)
  have b2 : (Int32.ofNat n).toInt.toNat = n := by omega
  have hI : (I, J, R).1 83 4 = Int32.ofNat n := h
  have hle : ¬ Int32.ofNat 40 ≤ Int32.ofNat n := fun z => by
    have := (xr_le (by omega) (by omega)).mp z
    omega
  rw [qX3_emit_83_eq, hI, if_neg hle, b2, b1, if_pos (by omega), a1]
theorem yg_binding {x : Int32} {S : xq_S} : xq_D xqP (d + 1) 45 [.int x] S = some (some (.int (Int32.ofNat (yk_bd x))), S) := by
  have e : ∀ n : Int32, (x.toInt = n.toInt) = (x = n) := fun n => propext xt_eq.symm
  have e42 := e 42
  have e43 := e 43
  have e45 := e 45
  have e47 := e 47
  have e60 := e 60
  have e61 := e 61
  have e62 := e 62
  have e256 := e 256
  rw [show (42 : Int32).toInt = 42 by decide] at e42
  rw [show (43 : Int32).toInt = 43 by decide] at e43
  rw [show (45 : Int32).toInt = 45 by decide] at e45
  rw [show (47 : Int32).toInt = 47 by decide] at e47
  rw [show (60 : Int32).toInt = 60 by decide] at e60
  rw [show (61 : Int32).toInt = 61 by decide] at e61
  rw [show (62 : Int32).toInt = 62 by decide] at e62
  rw [show (256 : Int32).toInt = 256 by decide] at e256
  rw [qX3_binding_eq]
  simp only [e42, e43, e45, e47, e60, e61, e62, e256]
  unfold yk_bd
  by_cases h1 : x = 42
  · subst h1; rfl
  by_cases h2 : x = 43
  · subst h2; rfl
  by_cases h3 : x = 45
  · subst h3; rfl
  by_cases h4 : x = 47
  · subst h4; rfl
  by_cases h5 : x = 60
  · subst h5; rfl
  by_cases h6 : x = 61
  · subst h6; rfl
  by_cases h7 : x = 62
  · subst h7; rfl
  by_cases h8 : x = 256
  · subst h8; rfl
  rw [if_neg h1, if_neg h2, if_neg h3, if_neg h4, if_neg h5, if_neg h6, if_neg h7, if_neg h8, if_neg (fun z => z.elim h5 (fun z => z.elim h6 h7)), if_neg (fun z => z.elim h2 h3), if_neg (fun z => z.elim h1 h4), if_neg h8]
  rfl
theorem yg_digit {x : Int32} {S : xq_S} : xq_D xqP (d + 1) 136 [.int x] S = some (some (.int (if 48 ≤ x.toInt ∧ x.toInt ≤ 57 then 1 else 0)), S) := by
  have e48 : (48 : Int32).toInt = 48 := by decide
  have e57 : (57 : Int32).toInt = 57 := by decide
  rw [qX7_isDigit_eq]
  by_cases h1 : x < (48 : Int32)
  · have := xt_lt.mp h1
    rw [if_pos h1, if_neg (by omega)]
  · have h1' : ¬ x.toInt < 48 := fun z => h1 (xt_lt.mpr (by omega))
    rw [if_neg h1]
    by_cases h2 : (57 : Int32) < x
    · have := xt_lt.mp h2
      rw [if_pos h2, if_neg (by omega)]
    · have h2' : ¬ 57 < x.toInt := fun z => h2 (xt_lt.mpr (by omega))
      rw [if_neg h2, if_pos (by omega)]
/-- operators that wait come next -/
theorem yg_reck {b : Nat} (hb1 : 1 ≤ b) (hb : b ≤ 4) : ∀ (W : List Int32) (sz : Nat) (I : Nat → Nat → Int32), I 83 5 = Int32.ofNat W.length → I 83 4 = Int32.ofNat sz → sz + W.length ≤ 40 → yv_r (I 85) W → (∀ o ∈ W, 8 ≤ o.toInt ∧ o.toInt ≤ 256) → ∃ I' sz', qX3_reckonDownTo_83_h0 (d + 1) (Int32.ofNat b) (I, J, R) = some (none, I', J, R) ∧ (∀ k j, ¬ (k = 83 ∧ (j = 4 ∨ j = 5)) → ¬ k = 84 → I' k j = I k j) ∧ I' 83 4 = Int32.ofNat sz' ∧ sz ≤ sz' ∧ ∀ e, I' 83 5 = Int32.ofNat (yk_fl b W (yk_evl e (yv_c (I 84) sz))).1.length ∧ sz' + (yk_fl b W (yk_evl e (yv_c (I 84) sz))).1.length ≤ sz + W.length ∧ yv_r (I 85) (yk_fl b W (yk_evl e (yv_c (I 84) sz))).1 ∧ (∀ o ∈ (yk_fl b W (yk_evl e (yv_c (I 84) sz))).1, o ∈ W) ∧ (yk_fl b W (yk_evl e (yv_c (I 84) sz))).2 = yk_evl e (yv_c (I' 84) sz')
  | [], sz, I, h5, h4, hs, hr, ho => by
    have hI : (I, J, R).1 83 5 = Int32.ofNat 0 := h5
    refine ⟨I, sz, ?_, fun _ _ _ _ => rfl, h4, Nat.le_refl _, fun e => ⟨h5, Nat.le_refl _, trivial, fun o h => h, rfl⟩⟩
    rw [qX3_reckonDownTo_83_h0_eq, hI, if_pos (by decide)]
  | o :: W, sz, I, h5, h4, hs, hr, ho => by
    have hs : sz + (W.length + 1) ≤ 40 := hs
    have h5 : I 83 5 = Int32.ofNat (W.length + 1) := h5
    have hI : (I, J, R).1 83 5 = Int32.ofNat (W.length + 1) := h5
    have hle : ¬ Int32.ofNat (W.length + 1) ≤ (0 : Int32) := fun z => by
      have := (xr_le (a := W.length + 1) (b := 0) (by omega) (by omega)).mp z
      omega
    have e1 : Int32.ofNat (W.length + 1) - 1 = Int32.ofNat W.length := xr_sub1' (by omega)
    have b1 := xt_nat (n := W.length) (by omega)
    have b2 : (Int32.ofNat W.length).toInt.toNat = W.length := by omega
    have hr1 : I 85 W.length = o := hr.1
    have hbo := yg_bd o
    have hlt : (Int32.ofNat (yk_bd o) < Int32.ofNat b) ↔ yk_bd o < b := xr_lt (by omega) (by omega)
    rw [qX3_reckonDownTo_83_h0_eq, hI, if_neg hle, e1, b2, b1, if_pos (by omega)]
    show ∃ I' sz', (xq_bI (xq_D xqP (d + 1) 45 [.int (I 85 W.length)] (I, J, R)) _) = _ ∧ _
    rw [yg_binding, xb_I1, hr1]
    by_cases hbd : yk_bd o < b
    · rw [if_pos (hlt.mpr hbd)]
      refine ⟨I, sz, rfl, fun _ _ _ _ => rfl, h4, Nat.le_refl _, fun e => ?_⟩
      have ef : yk_fl b (o :: W) (yk_evl e (yv_c (I 84) sz)) = (o :: W, yk_evl e (yv_c (I 84) sz)) := by
        rw [yk_fl_c, if_neg (by omega)]
      rw [ef]
      exact ⟨h5, Nat.le_refl _, hr, fun o h => h, rfl⟩
    · have hI2 : (I, J, R).1 83 5 = Int32.ofNat (W.length + 1) := h5
      rw [if_neg (fun z => hbd (hlt.mp z)), hI2, e1, b2, b1, if_pos (by omega)]
      show ∃ I' sz', (xq_bV (xq_D xqP (d + 1) 47 [.ref 83, .int (-(I 85 W.length))] (xq_upd I 83 5 (Int32.ofNat W.length), J, R)) _) = _ ∧ _
      have g4 : xq_upd I 83 5 (Int32.ofNat W.length) 83 4 = Int32.ofNat sz := (xu_j (by decide)).trans h4
      rw [yg_emit g4 (by omega), xb_V1, hr1]
      generalize hI1 : xq_upd (xq_upd (xq_upd I 83 5 (Int32.ofNat W.length)) 84 sz (-o)) 83 4 (Int32.ofNat (sz + 1)) = I1
      have k1 : ∀ k j, ¬ (k = 83 ∧ (j = 4 ∨ j = 5)) → ¬ k = 84 → I1 k j = I k j := fun k j x1 x2 => by
        rw [← hI1, xq_upd_n (fun z => x1 ⟨z.1, Or.inl z.2⟩), xq_upd_n (fun z => x2 z.1), xq_upd_n (fun z => x1 ⟨z.1, Or.inr z.2⟩)]
      have k2 : I1 83 5 = Int32.ofNat W.length := by
        rw [← hI1, xu_j (by decide), xu_k (by decide), xu_t]
      have k3 : I1 83 4 = Int32.ofNat (sz + 1) := by
        rw [← hI1, xu_t]
      have k85 : I1 85 = I 85 := funext fun j => k1 85 j (by omega) (by decide)
      have k84 : yv_c (I1 84) (sz + 1) = (-o) :: yv_c (I 84) sz := by
        show I1 84 sz :: yv_c (I1 84) sz = _
        rw [yv_c_up (F := I 84) (fun j hj => by rw [← hI1, xu_k (by decide), xq_upd_n (by omega), xu_k (by decide)])]
        rw [← hI1, xu_k (by decide), xu_t]
      obtain ⟨ho1, ho2⟩ := ho o List.mem_cons_self
      obtain ⟨I', sz', c0, c1, c2, c3, c4⟩ := yg_reck hb1 hb W (sz + 1) I1 k2 k3 (by omega) (by rw [k85]; exact hr.2) (fun q hq => ho q (List.mem_cons_of_mem _ hq))
      refine ⟨I', sz', c0, fun k j x1 x2 => (c1 k j x1 x2).trans (k1 k j x1 x2), c2, by omega, fun e => ?_⟩
      have ef : yk_fl b (o :: W) (yk_evl e (yv_c (I 84) sz)) = yk_fl b W (yk_evl e (yv_c (I1 84) (sz + 1))) := by
        rw [yk_fl_c, if_pos (by omega), k84]
        show _ = yk_fl b W (yk_ev e (-o) (yk_evl e (yv_c (I 84) sz)))
        rw [yg_app ho1 ho2]
      obtain ⟨e1, e2, e3, e4, e5⟩ := c4 e
      rw [ef]
      exact ⟨e1, by show _ ≤ sz + (W.length + 1); omega, by rw [← k85]; exact e3, fun q hq => List.mem_cons_of_mem _ (e4 q hq), e5⟩
end YGA
