/-! HELD ROTAS: the reference keeps, brings back, fixes -/
section YDO
variable {d : Nat} {J : Nat → Nat → Int64} {R : Nat → Nat → Nat}
theorem yd_keepl : ∀ (m i : Nat) (I : Nat → Nat → Int32), i + m = 8 → ∃ I', qX8_keepMay_h2 d (Int32.ofNat i) (I, J, R) = some (none, I', J, R) ∧ (∀ k j, ¬ k = 113 → ¬ k = 114 → I' k j = I k j) ∧ (∀ r, i ≤ r → r < 8 → I' 113 r = I 111 r ∧ I' 114 r = I 112 r) ∧ ∀ r, r < i → I' 113 r = I 113 r ∧ I' 114 r = I 114 r
  | 0, i, I, hi => by
    rw [qX8_keepMay_h2_eq, if_pos (show (8 : Int32) ≤ Int32.ofNat i from (xr_le (a := 8) (by omega) (by omega)).mpr (by omega))]
    exact ⟨I, rfl, fun _ _ _ _ => rfl, fun r h1 h2 => by omega, fun _ _ => ⟨rfl, rfl⟩⟩
  | m + 1, i, I, hi => by
    have b1 := xt_nat (n := i) (by omega)
    have b2 : (Int32.ofNat i).toInt.toNat = i := by omega
    have a1 : Int32.ofNat i + (1 : Int32) = Int32.ofNat (i + 1) := (Int32.ofNat_add i 1).symm
    rw [qX8_keepMay_h2_eq, if_neg (fun z => by have := (xr_le (a := 8) (by omega) (by omega)).mp z; omega), b2, b1, if_pos (by omega), if_pos (by omega), if_pos (by omega), if_pos (by omega), a1]
    obtain ⟨I', x1, x2, x3, x4⟩ := yd_keepl m (i + 1) (xq_upd (xq_upd I 113 i (I 111 i)) 114 i (I 112 i)) (by omega)
    refine ⟨I', x1, fun k j h1 h2 => by rw [x2 k j h1 h2, xu_k h2, xu_k h1], fun r h1 h2 => ?_, fun r hr => ?_⟩
    · by_cases e : r = i
      · subst e
        obtain ⟨y1, y2⟩ := x4 r (by omega)
        exact ⟨by rw [y1, xu_k (by decide), xu_t], by rw [y2, xu_t]⟩
      · obtain ⟨y1, y2⟩ := x3 r (by omega) h2
        exact ⟨by rw [y1, xu_k (by decide), xu_k (by decide)], by rw [y2, xu_k (by decide), xu_k (by decide)]⟩
    · obtain ⟨y1, y2⟩ := x4 r (by omega)
      exact ⟨by rw [y1, xu_k (by decide), xu_j (by omega)], by rw [y2, xu_j (by omega), xu_k (by decide)]⟩
theorem yd_keep {I : Nat → Nat → Int32} : ∃ I', xq_D xqP (d + 1) 242 [.ref 94] (I, J, R) = some (none, I', J, R) ∧ (∀ k j, ¬ k = 113 → ¬ k = 114 → I' k j = I k j) ∧ ∀ r, r < 8 → I' 113 r = I 111 r ∧ I' 114 r = I 112 r := by
  rw [qX8_keepMay_eq]
  obtain ⟨I', x1, x2, x3, -⟩ := yd_keepl (d := d) (J := J) (R := R) 8 0 I (by omega)
  exact ⟨I', x1, x2, fun r hr => x3 r (Nat.zero_le _) hr⟩
theorem yd_bringl : ∀ (m i : Nat) (I : Nat → Nat → Int32), i + m = 8 → ∃ I', qX8_bringMay_h2 d (Int32.ofNat i) (I, J, R) = some (none, I', J, R) ∧ (∀ k j, ¬ k = 111 → ¬ k = 112 → I' k j = I k j) ∧ (∀ r, i ≤ r → r < 8 → I' 111 r = I 113 r ∧ I' 112 r = I 114 r) ∧ ∀ r, r < i → I' 111 r = I 111 r ∧ I' 112 r = I 112 r
  | 0, i, I, hi => by
    rw [qX8_bringMay_h2_eq, if_pos (show (8 : Int32) ≤ Int32.ofNat i from (xr_le (a := 8) (by omega) (by omega)).mpr (by omega))]
    exact ⟨I, rfl, fun _ _ _ _ => rfl, fun r h1 h2 => by omega, fun _ _ => ⟨rfl, rfl⟩⟩
  | m + 1, i, I, hi => by
    have b1 := xt_nat (n := i) (by omega)
    have b2 : (Int32.ofNat i).toInt.toNat = i := by omega
    have a1 : Int32.ofNat i + (1 : Int32) = Int32.ofNat (i + 1) := (Int32.ofNat_add i 1).symm
    rw [qX8_bringMay_h2_eq, if_neg (fun z => by have := (xr_le (a := 8) (by omega) (by omega)).mp z; omega), b2, b1, if_pos (by omega), if_pos (by omega), if_pos (by omega), if_pos (by omega), a1]
    obtain ⟨I', x1, x2, x3, x4⟩ := yd_bringl m (i + 1) (xq_upd (xq_upd I 111 i (I 113 i)) 112 i (I 114 i)) (by omega)
    refine ⟨I', x1, fun k j h1 h2 => by rw [x2 k j h1 h2, xu_k h2, xu_k h1], fun r h1 h2 => ?_, fun r hr => ?_⟩
    · by_cases e : r = i
      · subst e
        obtain ⟨y1, y2⟩ := x4 r (by omega)
        exact ⟨by rw [y1, xu_k (by decide), xu_t], by rw [y2, xu_t]⟩
      · obtain ⟨y1, y2⟩ := x3 r (by omega) h2
        exact ⟨by rw [y1, xu_k (by decide), xu_k (by decide)], by rw [y2, xu_k (by decide), xu_k (by decide)]⟩
    · obtain ⟨y1, y2⟩ := x4 r (by omega)
      exact ⟨by rw [y1, xu_k (by decide), xu_j (by omega)], by rw [y2, xu_j (by omega), xu_k (by decide)]⟩
theorem yd_bring {I : Nat → Nat → Int32} : ∃ I', xq_D xqP (d + 1) 195 [.ref 94] (I, J, R) = some (none, I', J, R) ∧ (∀ k j, ¬ k = 111 → ¬ k = 112 → I' k j = I k j) ∧ ∀ r, r < 8 → I' 111 r = I 113 r ∧ I' 112 r = I 114 r := by
  rw [qX8_bringMay_eq]
  obtain ⟨I', x1, x2, x3, -⟩ := yd_bringl (d := d) (J := J) (R := R) 8 0 I (by omega)
  exact ⟨I', x1, x2, fun r hr => x3 r (Nat.zero_le _) hr⟩
theorem yd_fixl {h v c : Nat} (hh : h < 8) (hv : v < c) (hc : c ≤ 8) {may mst : Nat → Nat} : ∀ (m i : Nat) (I : Nat → Nat → Int32), i + m = c → I 94 3 = Int32.ofNat c → (∀ r, r < c → I 111 r = Int32.ofNat (if r < i then yd_fm may h v r else may r) ∧ I 112 r = Int32.ofNat (mst r)) → ∃ I', qX8_fix_h2 d (Int32.ofNat h) (Int32.ofNat v) (Int32.ofNat i) (I, J, R) = some (none, I', J, R) ∧ (∀ k j, ¬ k = 111 → ¬ k = 112 → I' k j = I k j) ∧ ∀ r, r < c → I' 111 r = Int32.ofNat (yd_fm may h v r) ∧ I' 112 r = Int32.ofNat (yd_fs mst h v r)
  | 0, i, I, hi, h3, hI => by
    have b1 := xt_nat (n := v) (by omega)
    have b2 : (Int32.ofNat v).toInt.toNat = v := by omega
    have h3' : (I, J, R).1 94 3 = Int32.ofNat c := h3
    have g : (I, J, R).1 112 v = Int32.ofNat (mst v) := (hI v hv).2
    rw [qX8_fix_h2_eq, h3', if_pos ((xr_le (by omega) (by omega)).mpr (by omega)), b2, b1, if_pos (by omega), if_pos (by omega), g, (yd_p2 h hh).1, yd_or]
    refine ⟨_, rfl, fun k j h1 h2 => xu_k h2, fun r hr => ?_⟩
    obtain ⟨g1, g2⟩ := hI r hr
    rw [if_pos (by omega)] at g1
    refine ⟨by rw [xu_k (by decide)]; exact g1, ?_⟩
    unfold yd_fs
    by_cases e : r = v
    · subst e
      rw [xu_t, if_pos rfl]
    · rw [xu_j e, if_neg e]
      exact g2
  | m + 1, i, I, hi, h3, hI => by
    have b1 := xt_nat (n := i) (by omega)
    have b2 : (Int32.ofNat i).toInt.toNat = i := by omega
    have a1 : Int32.ofNat i + (1 : Int32) = Int32.ofNat (i + 1) := (Int32.ofNat_add i 1).symm
    have h3' : (I, J, R).1 94 3 = Int32.ofNat c := h3
    have hne : (Int32.ofNat i = Int32.ofNat v) ↔ i = v := ⟨fun z => xr_nat_inj (by omega) (by omega) z, fun z => by rw [z]⟩
    obtain ⟨gi, -⟩ := hI i (by omega)
    rw [if_neg (by omega)] at gi
    have gi' : (I, J, R).1 111 i = Int32.ofNat (may i) := gi
    rw [qX8_fix_h2_eq, h3', if_neg (fun z => by have := (xr_le (by omega) (by omega)).mp z; omega)]
    by_cases e : i = v
    · rw [if_pos (hne.mpr e), qX8_fix_h29_eq, a1]
      refine yd_fixl hh hv hc m (i + 1) I (by omega) h3 (fun r hr => ?_)
      obtain ⟨g1, g2⟩ := hI r hr
      refine ⟨?_, g2⟩
      by_cases q : r < i
      · rw [if_pos q] at g1
        rw [if_pos (by omega)]
        exact g1
      · rw [if_neg q] at g1
        by_cases q2 : r = i
        · rw [if_pos (by omega)]
          unfold yd_fm
          rw [if_pos (by omega)]
          exact g1
        · rw [if_neg (by omega)]
          exact g1
    · rw [if_neg (fun z => e (hne.mp z)), b2, b1, if_pos (by omega), if_pos (by omega), gi', (yd_p2 h hh).1, yd_dif, qX8_fix_h29_eq, a1]
      obtain ⟨I', x1, x2, x3⟩ := yd_fixl hh hv hc (may := may) (mst := mst) m (i + 1) (xq_upd I 111 i (Int32.ofNat (may i &&& (2 ^ h ^^^ 4294967295)))) (by omega) (by rw [xu_k (by decide)]; exact h3) (fun r hr => by
        obtain ⟨g1, g2⟩ := hI r hr
        refine ⟨?_, by rw [xu_k (by decide)]; exact g2⟩
        by_cases q2 : r = i
        · subst q2
          rw [xu_t, if_pos (by omega)]
          unfold yd_fm
          rw [if_neg e]
          rfl
        · rw [xu_j q2, g1]
          by_cases q : r < i
          · rw [if_pos q, if_pos (by omega)]
          · rw [if_neg q, if_neg (by omega)])
      exact ⟨I', x1, fun k j h1 h2 => (x2 k j h1 h2).trans (xu_k h1), x3⟩
theorem yd_fix {h v c : Nat} {I : Nat → Nat → Int32} (hh : h < 8) (hv : v < c) (hc : c ≤ 8) {may mst : Nat → Nat} (h3 : I 94 3 = Int32.ofNat c) (hI : ∀ r, r < c → I 111 r = Int32.ofNat (may r) ∧ I 112 r = Int32.ofNat (mst r)) : ∃ I', xq_D xqP (d + 1) 214 [.ref 94, .int (Int32.ofNat h), .int (Int32.ofNat v)] (I, J, R) = some (none, I', J, R) ∧ (∀ k j, ¬ k = 111 → ¬ k = 112 → I' k j = I k j) ∧ ∀ r, r < c → I' 111 r = Int32.ofNat (yd_fm may h v r) ∧ I' 112 r = Int32.ofNat (yd_fs mst h v r) := by
  rw [qX8_fix_eq]
  exact yd_fixl (d := d) (J := J) (R := R) hh hv hc c 0 I (by omega) h3 (fun r hr => by rw [if_neg (Nat.not_lt_zero r)]; exact hI r hr)
theorem yd_right {v : Nat} {I : Nat → Nat → Int32} {a b : Nat} (hv : v < 8) (ha : a < 256) (hb : b < 256) (h1 : I 111 v = Int32.ofNat a) (h2 : I 112 v = Int32.ofNat b) : xq_D xqP (d + 1) 188 [.ref 94, .int (Int32.ofNat v)] (I, J, R) = some (some (.int (if b &&& a = b then 1 else 0)), I, J, R) := by
  have b1 := xt_nat (n := v) (by omega)
  have b2 : (Int32.ofNat v).toInt.toNat = v := by omega
  have h1' : (I, J, R).1 111 v = Int32.ofNat a := h1
  have h2' : (I, J, R).1 112 v = Int32.ofNat b := h2
  rw [qX8_areRight_eq, b2, b1, if_pos (by omega), if_pos (by omega), h1', h2']
  by_cases g : b &&& a = b
  · rw [if_neg (fun z => z ((yd_ss0 hb ha).mpr g)), if_pos g]
  · rw [if_pos (fun z => g ((yd_ss0 hb ha).mp z)), if_neg g]
theorem yd_has {a h : Nat} (ha : a < 256) (hh : h < 8) {S : xq_S} : xq_D xqP (d + 1) 227 [.int (Int32.ofNat a), .int (Int32.ofNat h)] S = some (some (.int (if a.testBit h = true then 1 else 0)), S) := by
  rw [qX8_has_eq]
  by_cases g : a.testBit h = true
  · rw [if_neg (fun z => z ((yd_tb8 a ha h hh).mpr g)), if_pos g]
  · rw [if_pos (fun z => g ((yd_tb8 a ha h hh).mp z)), if_neg g]
end YDO
