/-! A NIGHT of the reference -/
def yk_Q0 : yk_Q := (true, 0, fun _ => false, 0, [], [])
/-- a text has a value -/
def yok (e T : Nat → Int32) (n0 stop : Nat) (x : Int32) : Prop := ∃ Q, yk_o e T n0 stop 0 yk_Q0 = .inr Q ∧ yk_fl 1 Q.2.2.2.2.2 Q.2.2.2.2.1 = ([], [x])
section YND
variable {d q n0 top stop : Nat} {I : Nat → Nat → Int32} {J : Nat → Nat → Int64} {R : Nat → Nat → Nat} {e : Nat → Int32}
theorem yr_held0 (hH : yk_H I R q n0 40) (hst : stop = if 40 < n0 then 40 else n0) (he : ∀ i, i < 7 → e i = if I 94 21 = 0 then 0 else I 104 i) (h15 : I 94 15 = Int32.ofNat 0) (h16 : I 94 16 = -1) : ∃ v p w, xq_D xqP (d + 171) 229 [.ref 94, .int 0] (I, J, R) = some (some (.int v), pI I p w, J, R) ∧ p ≤ stop ∧ ((w = Int32.ofNat p ∧ yk_o e (yk_t I q n0 40) n0 stop 0 yk_Q0 = .inl p) ∨ (w = -1 ∧ (p < n0 → yk_o e (yk_t I q n0 40) n0 stop 0 yk_Q0 = .inl p) ∧ (n0 ≤ p → ∃ Q, yk_o e (yk_t I q n0 40) n0 stop 0 yk_Q0 = .inr Q ∧ yk_fl 1 Q.2.2.2.2.2 Q.2.2.2.2.1 = ([], [v])))) := by
  have hs40 : stop ≤ 40 := by
    rw [hst]
    split <;> omega
  obtain ⟨v, p, w, g1, g2, g3, g4⟩ := (yk_all (J := J) (e := e) hH hst he 40).2 d 0 0 (fun _ => false) 0 [] [] (by omega) (by omega) (by omega) trivial rfl
  have ei : pI I 0 (-1) = I := xe_Iid h15 h16
  rw [ei] at g1
  refine ⟨v, p, w, g1, g3, ?_⟩
  rcases g4 with h | ⟨h1, Q, h2, h3, h4, h5, h6, h7, h8⟩
  · exact Or.inl h
  · refine Or.inr ⟨h1, fun hp => ?_, fun hp => ?_⟩
    · refine h2.trans ?_
      by_cases hps : p < stop
      · exact yk_o_n hps (yk_F1_none h8 h3 (Or.inr h4) (yk_tr).2)
      · have hn : 40 < n0 := by
          rw [hst] at hps
          split at hps <;> omega
        unfold yk_o
        rw [show stop - p = 0 by omega, yk_run, if_pos (Or.inl hn), show stop = p by omega]
    · refine ⟨Q, h2.trans ?_, ?_⟩
      · have hps : stop = p := by
          rw [hst] at g3 ⊢
          split at g3
          · omega
          · rename_i z
            rw [if_neg z]
            omega
        have hn : ¬ 40 < n0 := by
          intro z
          rw [hst, if_pos z] at hps
          omega
        unfold yk_o
        rw [show stop - p = 0 by omega, yk_run, if_neg (fun z => z.elim hn (fun z => z.elim (fun z => by rw [h3] at z; cases z) (fun z => by rw [h4] at z; omega)))]
      · exact h7
theorem yr_val0 (hH : yk_H I R q n0 40) (hst : stop = if 40 < n0 then 40 else n0) (he : ∀ i, i < 7 → e i = if I 94 21 = 0 then 0 else I 104 i) (h15 : I 94 15 = Int32.ofNat 0) (h16 : I 94 16 = -1) : ∃ v p w, xq_D xqP (d + 171) 229 [.ref 94, .int 0] (I, J, R) = some (some (.int v), pI I p w, J, R) ∧ ∀ x, yok e (yk_t I q n0 40) n0 stop x → v = x := by
  obtain ⟨v, p, w, g1, g2, g3⟩ := yr_held0 (d := d) (J := J) hH hst he h15 h16
  refine ⟨v, p, w, g1, fun x hx => ?_⟩
  obtain ⟨Q, h1, h2⟩ := hx
  rcases g3 with ⟨-, h⟩ | ⟨-, h, h'⟩
  · rw [h] at h1
    cases h1
  · by_cases hp : p < n0
    · rw [h hp] at h1
      cases h1
    · obtain ⟨Q', k1, k2⟩ := h' (by omega)
      rw [h1] at k1
      cases k1
      rw [h2] at k2
      exact (List.cons.inj (Prod.mk.inj k2).2).1.symm
end YND
abbrev yn_r1T : Type := Int32 × Int32 × (Nat → Int32) × Int32
/-- an hour, as the reference has it -/
noncomputable def yn_r1 (be : Int32) (ro ca mo wi il : Nat → Int32) (h : Nat) (s : yn_T) : yn_T := match Classical.propDecidable (¬ ro h = -1 ∧ yhb (ca (ro h).toInt.toNat) (Int32.ofNat h) ∧ il (ro h).toInt.toNat = 0 ∧ s.2.2.1 (ro h).toInt.toNat < mo (ro h).toInt.toNat) with
  | .isTrue _ => (if ¬ s.2.2.2 = -1 ∧ ¬ s.2.2.2 = ro h ∧ be < yab (wi s.2.2.2.toInt.toNat - wi (ro h).toInt.toNat) then s.1 ||| ybit h else s.1, s.2.1 ||| ybit h, xr_up s.2.2.1 (ro h).toInt.toNat (s.2.2.1 (ro h).toInt.toNat + 1), ro h)
  | .isFalse _ => (s.1 ||| ybit h, s.2.1, s.2.2.1, -1)
noncomputable def yn_rn (be : Int32) (ro ca mo wi il : Nat → Int32) : Nat → yn_T
  | 0 => (0, 0, fun _ => 0, -1)
  | h + 1 => yn_r1 be ro ca mo wi il h (yn_rn be ro ca mo wi il h)
theorem yn_r1_T {be : Int32} {ro ca mo wi il : Nat → Int32} {h : Nat} {s : yn_T} (g : ¬ ro h = -1 ∧ yhb (ca (ro h).toInt.toNat) (Int32.ofNat h) ∧ il (ro h).toInt.toNat = 0 ∧ s.2.2.1 (ro h).toInt.toNat < mo (ro h).toInt.toNat) : yn_r1 be ro ca mo wi il h s = (if ¬ s.2.2.2 = -1 ∧ ¬ s.2.2.2 = ro h ∧ be < yab (wi s.2.2.2.toInt.toNat - wi (ro h).toInt.toNat) then s.1 ||| ybit h else s.1, s.2.1 ||| ybit h, xr_up s.2.2.1 (ro h).toInt.toNat (s.2.2.1 (ro h).toInt.toNat + 1), ro h) := by
  unfold yn_r1
  split
  · rfl
  · rename_i z _
    exact absurd g z
theorem yn_r1_F {be : Int32} {ro ca mo wi il : Nat → Int32} {h : Nat} {s : yn_T} (g : ¬ (¬ ro h = -1 ∧ yhb (ca (ro h).toInt.toNat) (Int32.ofNat h) ∧ il (ro h).toInt.toNat = 0 ∧ s.2.2.1 (ro h).toInt.toNat < mo (ro h).toInt.toNat)) : yn_r1 be ro ca mo wi il h s = (s.1 ||| ybit h, s.2.1, s.2.2.1, -1) := by
  unfold yn_r1
  split
  · rename_i z _
    exact absurd z g
  · rfl
/-- HARD by the reference -/
def yr_Hd (T : Nat → Int32) (n0 : Nat) (ti wi mo ca : Nat → Int32) (ni : Int32) (Hd : Nat → Nat → Int32) : Prop := ∀ r h, r < 8 → h < 8 → (n0 = 0 → Hd r h = ycl (ti r + wi r + (if 5 < h then 9 else 0)) 0 999) ∧ (0 < n0 → ∃ x, yok (yth (Int32.ofNat h) (ti r) (wi r) (mo r) (Int32.ofNat r) (ym7 ni) (ybc (ca r))) T n0 n0 x ∧ Hd r h = ycl x 0 999)
section YNE95
variable {d n n0 : Nat} {I : Nat → Nat → Int32} {J : Nat → Nat → Int64} {R : Nat → Nat → Nat}
theorem yr_hard95 {r h : Nat} {I : Nat → Nat → Int32} (hr : r < 8) (hh : h < 8) (hn0 : n0 ≤ 40) (hs : I 94 20 = Int32.ofNat n0) (hR : R 94 18 = 102) (hb : ∀ i, i < 40 → -128 ≤ (I 102 i).toInt ∧ (I 102 i).toInt ≤ 127) (h21 : I 94 21 = 0) : ∃ v I' R', xq_D xqP (d + 172) 225 [.ref 94, .ref 95, .int (Int32.ofNat r), .int (Int32.ofNat h)] (I, J, R) = some (some (.int v), I', J, R') ∧ (∀ k j, ¬ k = 104 → ¬ (k = 94 ∧ (j = 13 ∨ j = 14 ∨ j = 15 ∨ j = 16)) → I' k j = I k j) ∧ (∀ k j, ¬ (k = 94 ∧ j = 12) → R' k j = R k j) ∧ 0 ≤ v.toInt ∧ v.toInt ≤ 999 ∧ (n0 = 0 → v = ycl (I 95 (8 + r) + I 97 r + (if 5 < h then 9 else 0)) 0 999) ∧ (0 < n0 → ∀ x, yok (yth (Int32.ofNat h) (I 95 (8 + r)) (I 97 r) (I 96 r) (Int32.ofNat r) (ym7 (I 95 24)) (ybc (I 98 r))) (yk_t I 102 n0 40) n0 n0 x → v = ycl x 0 999) := by
  have b1 := xt_nat (n := r) (by omega)
  have b2 : (Int32.ofNat r).toInt.toNat = r := by omega
  have a8 : (8 : Int32) + Int32.ofNat r = Int32.ofNat (8 + r) := (Int32.ofNat_add 8 r).symm
  have b3 := xt_nat (n := 8 + r) (by omega)
  have b4 : (Int32.ofNat (8 + r)).toInt.toNat = 8 + r := by omega
  have fin : ∀ (v : Int32) (S : xq_S), qX8_hardOf_95_h144 (d + 171) (Int32.ofNat r) (Int32.ofNat h) v S = some (some (.int (ycl v 0 999)), S) := by
    intro v S
    rw [qX8_hardOf_95_h144_eq]
    rfl
  have key : ∀ w0 : Int32, w0 = (if 5 < h then 9 else 0) → ∃ v I' R', qX8_hardOf_95_h24 (d + 171) (Int32.ofNat r) (Int32.ofNat h) w0 (I 95 (8 + r) + I 97 r) (I, J, R) = some (some (.int v), I', J, R') ∧ (∀ k j, ¬ k = 104 → ¬ (k = 94 ∧ (j = 13 ∨ j = 14 ∨ j = 15 ∨ j = 16)) → I' k j = I k j) ∧ (∀ k j, ¬ (k = 94 ∧ j = 12) → R' k j = R k j) ∧ 0 ≤ v.toInt ∧ v.toInt ≤ 999 ∧ (n0 = 0 → v = ycl (I 95 (8 + r) + I 97 r + (if 5 < h then 9 else 0)) 0 999) ∧ (0 < n0 → ∀ x, yok (yth (Int32.ofNat h) (I 95 (8 + r)) (I 97 r) (I 96 r) (Int32.ofNat r) (ym7 (I 95 24)) (ybc (I 98 r))) (yk_t I 102 n0 40) n0 n0 x → v = ycl x 0 999) := by
    intro w0 hw0
    have hs' : (I, J, R).1 94 20 = Int32.ofNat n0 := hs
    rw [qX8_hardOf_95_h24_eq, hs']
    by_cases hz : n0 = 0
    · subst hz
      rw [if_pos (by decide), fin]
      have hb9 := ycl_r (v := I 95 (8 + r) + I 97 r + w0) (lo := 0) (hi := 999) (by decide)
      exact ⟨_, I, R, rfl, fun _ _ _ _ => rfl, fun _ _ _ => rfl, hb9.1, hb9.2, fun _ => by rw [hw0], fun z => by omega⟩
    · have hle : ¬ Int32.ofNat n0 ≤ (0 : Int32) := fun z => by
        have := (xr_le (b := 0) (by omega) (by decide)).mp z
        omega
      rw [if_neg hle, a8, b4, b3, b2, b1, if_pos (by omega), if_pos (by omega), if_pos (by omega), if_pos (by omega), yc_bc, xb_I1]
      have hR1 : (I, J, R).2.2 94 18 = 102 := hR
      rw [hR1, if_neg (by decide), if_pos rfl]
      generalize hI1 : xq_upd (xq_upd (xq_upd (xq_upd (xq_upd (xq_upd (xq_upd I 104 0 (Int32.ofNat h)) 104 1 (I 95 (8 + r))) 104 2 (I 97 r)) 104 3 (I 96 r)) 104 4 (Int32.ofNat r)) 104 5 (ym7 (I 95 24))) 104 6 (ybc (I 98 r)) = I1
      have f1 : ∀ k j, ¬ k = 104 → I1 k j = I k j := fun k j hk => by
        rw [← hI1, xu_k hk, xu_k hk, xu_k hk, xu_k hk, xu_k hk, xu_k hk, xu_k hk]
      have f7 : ∀ i, i < 7 → I1 104 i = yth (Int32.ofNat h) (I 95 (8 + r)) (I 97 r) (I 96 r) (Int32.ofNat r) (ym7 (I 95 24)) (ybc (I 98 r)) i := by
        intro i hi
        rw [← hI1]
        rcases (show i = 0 ∨ i = 1 ∨ i = 2 ∨ i = 3 ∨ i = 4 ∨ i = 5 ∨ i = 6 by omega) with rfl | rfl | rfl | rfl | rfl | rfl | rfl <;> simp [xq_upd, yth]
      have eS : ((xq_upd (xq_upd (xq_upd (xq_upd (xq_upd (xq_upd (I, J, R).1 104 0 (Int32.ofNat h)) 104 1 ((I, J, R).1 95 (8 + r))) 104 2 ((I, J, R).1 97 r)) 104 3 ((I, J, R).1 96 r)) 104 4 (Int32.ofNat r)) 104 5 ((I, J, R).1 95 24 - (I, J, R).1 95 24 / (7 : Int32) * (7 : Int32)), (I, J, R).2) : xq_S).1 94 20 = Int32.ofNat n0 := by
        show xq_upd (xq_upd (xq_upd (xq_upd (xq_upd (xq_upd I 104 0 (Int32.ofNat h)) 104 1 (I 95 (8 + r))) 104 2 (I 97 r)) 104 3 (I 96 r)) 104 4 (Int32.ofNat r)) 104 5 (I 95 24 - I 95 24 / (7 : Int32) * (7 : Int32)) 94 20 = _
        rw [xu_k (by decide), xu_k (by decide), xu_k (by decide), xu_k (by decide), xu_k (by decide), xu_k (by decide), hs]
      rw [eS]
      show ∃ v I' R', xq_bV (xq_D xqP (d + 171) 193 [.ref 94, .ref 102, .int (Int32.ofNat n0), .int 40] (xq_upd (xq_upd (xq_upd (xq_upd (xq_upd (xq_upd (xq_upd I 104 0 (Int32.ofNat h)) 104 1 (I 95 (8 + r))) 104 2 (I 97 r)) 104 3 (I 96 r)) 104 4 (Int32.ofNat r)) 104 5 (ym7 (I 95 24))) 104 6 (ybc (I 98 r)), J, R)) _ = _ ∧ _
      rw [hI1, qX8_begin_102_eq, xb_V1]
      generalize hI2 : xq_upd (xq_upd (xq_upd (xq_upd (xq_upd I1 94 13 (Int32.ofNat n0)) 94 14 40) 94 15 0) 94 16 (-1)) 94 21 1 = I2
      generalize hR2 : xq_upd R 94 12 102 = R2
      have f2 : ∀ k j, ¬ (k = 94 ∧ (j = 13 ∨ j = 14 ∨ j = 15 ∨ j = 16 ∨ j = 21)) → I2 k j = I1 k j := fun k j hk => by
        rw [← hI2, xq_upd_n (by omega), xq_upd_n (by omega), xq_upd_n (by omega), xq_upd_n (by omega), xq_upd_n (by omega)]
      have g13 : I2 94 13 = Int32.ofNat n0 := by rw [← hI2, xu_j (by decide), xu_j (by decide), xu_j (by decide), xu_j (by decide), xu_t]
      have g14 : I2 94 14 = Int32.ofNat 40 := by rw [← hI2, xu_j (by decide), xu_j (by decide), xu_j (by decide), xu_t]; rfl
      have g15 : I2 94 15 = Int32.ofNat 0 := by rw [← hI2, xu_j (by decide), xu_j (by decide), xu_t]; rfl
      have g16 : I2 94 16 = -1 := by rw [← hI2, xu_j (by decide), xu_t]
      have g21 : I2 94 21 = 1 := by rw [← hI2, xu_t]
      have g102 : ∀ i, I2 102 i = I 102 i := fun i => (f2 102 i (by omega)).trans (f1 102 i (by decide))
      have hH : yk_H I2 R2 102 n0 40 := ⟨Or.inr ⟨Or.inl rfl, hn0⟩, by rw [← hR2, xu_t], g13, g14, by decide, fun i hi => by rw [g102]; exact hb i (by omega)⟩
      obtain ⟨v, p, w, u1, u2⟩ := yr_val0 (d := d) (J := J) (e := yth (Int32.ofNat h) (I 95 (8 + r)) (I 97 r) (I 96 r) (Int32.ofNat r) (ym7 (I 95 24)) (ybc (I 98 r))) hH (stop := if 40 < n0 then 40 else n0) rfl (fun i hi => by rw [g21, if_neg (by decide), f2 104 i (by omega), f7 i hi]) g15 g16
      have hb9 := ycl_r (v := v) (lo := 0) (hi := 999) (by decide)
      refine ⟨ycl v 0 999, xq_upd (pI I2 p w) 94 21 0, R2, ?_, fun k j h1 h2 => ?_, fun k j hk => ?_, hb9.1, hb9.2, fun z => absurd z hz, fun _ x hx => ?_⟩
      · show xq_bI (xq_D xqP (d + 171) 229 [.ref 94, .int 0] (I2, J, R2)) _ = _
        rw [u1, xb_I1, fin]
      · by_cases hk : k = 94 ∧ j = 21
        · obtain ⟨rfl, rfl⟩ := hk
          rw [xu_t, h21]
        · rw [xq_upd_n hk, pI_o (by omega), f2 k j (by omega), f1 k j h1]
      · rw [← hR2, xq_upd_n hk]
      · have et : yk_t I2 102 n0 40 = yk_t I 102 n0 40 := by
          funext p
          unfold yk_t
          rw [g102]
        rw [u2 x (by rw [et, if_neg (by omega)]; exact hx)]
  rw [qX8_hardOf_95_eq, a8, b4, b3, b2, b1, if_pos (by omega), if_pos (by omega)]
  by_cases h5 : 5 < h
  · rw [if_neg (show ¬ Int32.ofNat h ≤ (5 : Int32) from fun z => by have := (xr_le (b := 5) (by omega) (by decide)).mp z; omega)]
    exact key 9 (by rw [if_pos h5])
  · rw [if_pos (show Int32.ofNat h ≤ (5 : Int32) from (xr_le (b := 5) (by omega) (by decide)).mpr (by omega))]
    exact key 0 (by rw [if_neg h5])
end YNE95
