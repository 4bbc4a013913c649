/-! HELD ROTAS: solve() of the reference, whole -/
def yd_Pr (ok : Nat → Nat → Prop) (c : Nat) : Nat → Nat → (Nat → Nat) → Prop
  | 0, t, _ => t = 0
  | m + 1, t, o => ok (c - (m + 1)) (o (c - (m + 1))) ∧ o (c - (m + 1)) &&& t = o (c - (m + 1)) ∧ yd_Pr ok c m (t ^^^ o (c - (m + 1))) o
def yd_Sr (w : Nat → Nat → Int) (c : Nat) : Nat → (Nat → Nat) → Int
  | 0, _ => 0
  | m + 1, o => w (c - (m + 1)) (o (c - (m + 1))) + yd_Sr w c m o
theorem yd_Pr_cg {ok : Nat → Nat → Prop} {c : Nat} {o o' : Nat → Nat} : ∀ {m t : Nat}, m ≤ c → (∀ r, c - m ≤ r → r < c → o' r = o r) → yd_Pr ok c m t o → yd_Pr ok c m t o'
  | 0, _, _, _, h => h
  | m + 1, t, hm, h, ⟨h1, h2, h3⟩ => by
    have e := h (c - (m + 1)) (Nat.le_refl _) (by omega)
    show ok (c - (m + 1)) (o' (c - (m + 1))) ∧ o' (c - (m + 1)) &&& t = o' (c - (m + 1)) ∧ yd_Pr ok c m (t ^^^ o' (c - (m + 1))) o'
    rw [e]
    exact ⟨h1, h2, yd_Pr_cg (by omega) (fun r hr hr2 => h r (by omega) hr2) h3⟩
theorem yd_Sr_cg {w : Nat → Nat → Int} {c : Nat} {o o' : Nat → Nat} : ∀ {m : Nat}, m ≤ c → (∀ r, c - m ≤ r → r < c → o' r = o r) → yd_Sr w c m o' = yd_Sr w c m o
  | 0, _, _ => rfl
  | m + 1, hm, h => by
    show w (c - (m + 1)) (o' (c - (m + 1))) + yd_Sr w c m o' = w (c - (m + 1)) (o (c - (m + 1))) + yd_Sr w c m o
    rw [yd_Sr_cg (by omega) (fun r hr hr2 => h r (by omega) hr2), h (c - (m + 1)) (Nat.le_refl _) (by omega)]
def yd_D (ok : Nat → Nat → Prop) (w : Nat → Nat → Int) (c m full : Nat) (D : Nat → Int) : Prop := ∀ t, t ≤ full → (0 ≤ D t ∧ D t ≤ yd_FAR) ∧ (D t < yd_FAR → ∃ o, yd_Pr ok c m t o ∧ D t = yd_Sr w c m o) ∧ ∀ o, yd_Pr ok c m t o → D t ≤ yd_Sr w c m o
theorem yd_D0 {ok : Nat → Nat → Prop} {w : Nat → Nat → Int} {c full : Nat} {D : Nat → Int} (h0 : D 0 = 0) (h1 : ∀ t, 0 < t → t ≤ full → D t = yd_FAR) : yd_D ok w c 0 full D := by
  intro t ht
  have hFAR : yd_FAR = 1000000000 := rfl
  by_cases e : t = 0
  · subst e
    exact ⟨by omega, fun _ => ⟨fun _ => 0, rfl, h0⟩, fun o _ => by show D 0 ≤ 0; omega⟩
  · have := h1 t (by omega) ht
    exact ⟨by omega, fun z => by omega, fun o ho => absurd ho e⟩
theorem yd_Ds {ok : Nat → Nat → Prop} {w : Nat → Nat → Int} {c m full : Nat} {B D : Nat → Int} (hm : m + 1 ≤ c) (hw : ∀ own, ok (c - (m + 1)) own → 0 ≤ w (c - (m + 1)) own) (hB : yd_D ok w c m full B) (hac : ∀ t, t ≤ full → yd_acc (ok (c - (m + 1))) (w (c - (m + 1))) B (fun _ => True) t (D t)) : yd_D ok w c (m + 1) full D := by
  intro t ht
  obtain ⟨h1, h2, h3⟩ := hac t ht
  refine ⟨h1, fun z => ?_, fun o ho => ?_⟩
  · rcases h3 with q | ⟨own, q1, q2, q3, q4⟩
    · omega
    · obtain ⟨o, p1, p2⟩ := (hB (t ^^^ own) (by have := yd_xlt q2; omega)).2.1 q3
      refine ⟨fun r => if r = c - (m + 1) then own else o r, ?_, ?_⟩
      · show ok (c - (m + 1)) (if c - (m + 1) = c - (m + 1) then own else o (c - (m + 1))) ∧ (if c - (m + 1) = c - (m + 1) then own else o (c - (m + 1))) &&& t = (if c - (m + 1) = c - (m + 1) then own else o (c - (m + 1))) ∧ yd_Pr ok c m (t ^^^ (if c - (m + 1) = c - (m + 1) then own else o (c - (m + 1)))) (fun r => if r = c - (m + 1) then own else o r)
        rw [if_pos rfl]
        exact ⟨q1, q2, yd_Pr_cg (by omega) (fun r hr hr2 => if_neg (by omega)) p1⟩
      · show D t = w (c - (m + 1)) (if c - (m + 1) = c - (m + 1) then own else o (c - (m + 1))) + yd_Sr w c m (fun r => if r = c - (m + 1) then own else o r)
        rw [if_pos rfl, yd_Sr_cg (o := o) (by omega) (fun r hr hr2 => if_neg (by omega)), q4, p2]
        omega
  · obtain ⟨g1, g2, g3⟩ := ho
    show D t ≤ w (c - (m + 1)) (o (c - (m + 1))) + yd_Sr w c m o
    obtain ⟨b1, b2, b3⟩ := hB (t ^^^ o (c - (m + 1))) (by have := yd_xlt g2; omega)
    have b4 := b3 o g3
    have b5 := hw _ g1
    by_cases z : B (t ^^^ o (c - (m + 1))) < yd_FAR
    · have := h2 (o (c - (m + 1))) trivial g1 g2 z
      omega
    · omega
section YDN
variable {d n c full : Nat} {I0 : Nat → Nat → Int32} {J : Nat → Nat → Int64} {R : Nat → Nat → Nat} {v1 : Int32} {may : Nat → Nat} {okc : Nat → Nat → Prop} {w : Nat → Nat → Int}
theorem yd_night {I : Nat → Nat → Int32} (hn : n ≤ 8) (h1 : I 94 1 = Int32.ofNat n) : xq_D xqP (d + 1) 257 [.ref 94] (I, J, R) = some (some (.int (Int32.ofNat (2 ^ n - 1))), I, J, R) := by
  have h1' : (I, J, R).1 94 1 = Int32.ofNat n := h1
  rw [qX8_night_eq, h1', (yd_full n (by omega)).1]
/-- a row is opened -/
theorem yd_far (hn : n ≤ 8) (hfull : full = 2 ^ n - 1) (h1 : I0 94 1 = Int32.ofNat n) {r : Nat} (hr : r < 8) : ∀ (m t : Nat) (I : Nat → Nat → Int32), t + m = full + 1 → yd_ag I0 I → ∃ I', qX8_solve_h53 (d + 1) v1 (Int32.ofNat r) (Int32.ofNat t) (I, J, R) = qX8_solve_h87 (d + 1) v1 (Int32.ofNat r) (I0 111 r) (I', J, R) ∧ yd_ag I0 I' ∧ (∀ j, ¬ (256 * r + t ≤ j ∧ j ≤ 256 * r + full) → I' 116 j = I 116 j) ∧ ∀ t', t ≤ t' → t' ≤ full → (I' 116 (256 * r + t')).toInt = yd_FAR
  | 0, t, I, ht, hag => by
    have hf := (yd_full n (by omega)).2
    have b1 := xt_nat (n := r) (by omega)
    have b2 : (Int32.ofNat r).toInt.toNat = r := by omega
    have g111 : ((I, J, R) : xq_S).1 111 r = I0 111 r := hag 111 r (by decide)
    rw [qX8_solve_h53_eq, yd_night hn ((hag 94 1 (by decide)).trans h1), xb_I1, if_pos ((xr_lt (by omega) (by omega)).mpr (by omega)), b2, b1, if_pos (by omega), g111]
    exact ⟨I, rfl, hag, fun _ _ => rfl, fun t' h1 h2 => by omega⟩
  | m + 1, t, I, ht, hag => by
    have hf := (yd_full n (by omega)).2
    have i1 := yd_row r (by omega) t (by omega)
    have c1 := xt_nat (n := 256 * r + t) (by omega)
    have c2 : (Int32.ofNat (256 * r + t)).toInt.toNat = 256 * r + t := by omega
    have a1 : Int32.ofNat t + (1 : Int32) = Int32.ofNat (t + 1) := (Int32.ofNat_add t 1).symm
    rw [qX8_solve_h53_eq, yd_night hn ((hag 94 1 (by decide)).trans h1), xb_I1, if_neg (fun z => by have := (xr_lt (by omega) (by omega)).mp z; omega), i1, c2, c1, if_pos (by omega), a1]
    obtain ⟨I', x1, x2, x3, x4⟩ := yd_far hn hfull h1 hr m (t + 1) (xq_upd I 116 (256 * r + t) 1000000000) (by omega) (fun k j hk => (xu_k hk).trans (hag k j hk))
    refine ⟨I', x1, x2, fun j hj => ?_, fun t' h1 h2 => ?_⟩
    · rw [x3 j (by omega), xu_j (by omega)]
    · by_cases e : t' = t
      · subst e
        rw [x3 _ (by omega), xu_t]
        decide
      · exact x4 t' (by omega) h2
/-- the riders, from the last to the first -/
theorem yd_rows (hn : n ≤ 8) (hc : c ≤ 8) (hfull : full = 2 ^ n - 1) (h1 : I0 94 1 = Int32.ofNat n) (hmay : ∀ r, r < c → I0 111 r = Int32.ofNat (may r) ∧ may r &&& full = may r) (hcs : ∀ r, r < c → yd_cs (d + 1) I0 J R v1 r (may r) (okc r) (w r)) : ∀ (r m : Nat) (I : Nat → Nat → Int32), r + m = c → yd_ag I0 I → yd_D (fun r x => x &&& may r = x ∧ okc r x) w c m full (fun t => (I 116 (256 * r + t)).toInt) → ∃ v I', qX8_solve_h47 (d + 1) v1 (Int32.ofNat r + (-1 : Int32)) (I, J, R) = some (some (.int v), I', J, R) ∧ yd_ag I0 I' ∧ yd_D (fun r x => x &&& may r = x ∧ okc r x) w c c full (fun t => (I' 116 t).toInt) ∧ v = I' 116 full
  | 0, m, I, hm, hag, hD => by
    have hf := (yd_full n (by omega)).2
    obtain rfl : m = c := by omega
    rw [← hfull] at hf
    have c1 := xt_nat (n := full) (by omega)
    have c2 : (Int32.ofNat full).toInt.toNat = full := by omega
    rw [qX8_solve_h47_eq, if_pos (by decide), yd_night hn ((hag 94 1 (by decide)).trans h1), xb_I1, ← hfull, c2, c1, if_pos (by omega)]
    refine ⟨I 116 full, I, rfl, hag, ?_, rfl⟩
    have e : ∀ t, 256 * 0 + t = t := fun t => by omega
    simp only [e] at hD
    exact hD
  | r + 1, m, I, hm, hag, hD => by
    have hf := (yd_full n (by omega)).2
    have hm1 : Int32.ofNat (r + 1) + (-1 : Int32) = Int32.ofNat r := by
      have := yd_sub1 (a := r + 1) (by omega)
      rw [show r + 1 - 1 = r by omega] at this
      rw [← this]
      grind
    have hneg : ¬ Int32.ofNat r < (0 : Int32) := fun z => by
      have := xt_lt.mp z
      rw [xt_nat (by omega)] at this
      have e0 : (0 : Int32).toInt = 0 := by decide
      omega
    obtain ⟨g1, g2⟩ := hmay r (by omega)
    rw [hm1, qX8_solve_h47_eq, if_neg hneg]
    obtain ⟨I1, x1, x2, x3, x4⟩ := yd_far (d := d) (J := J) (R := R) (v1 := v1) hn hfull h1 (show r < 8 by omega) (full + 1) 0 I (by omega) hag
    have x1 : qX8_solve_h53 (d + 1) v1 (Int32.ofNat r) 0 (I, J, R) = _ := x1
    rw [x1, g1]
    have hBc : ∀ t, t ≤ full → (I1 116 (256 * (r + 1) + t)).toInt = (I 116 (256 * (r + 1) + t)).toInt := fun t ht => by rw [x3 _ (by omega)]
    have hFAR : yd_FAR = 1000000000 := rfl
    obtain ⟨I2, y1, y2, y3, y4⟩ := yd_own (d := d) (J := J) (R := R) hn hfull (show r < 8 by omega) g2 h1 g1 (hcs r (by omega)) (may r) I1 (by rw [Nat.and_self]) x2 (fun t ht => by rw [hBc t ht]; exact (hD t ht).1) (fun t ht => by
      have := x4 t (Nat.zero_le _) ht
      refine ⟨by omega, fun own h1 h2 => ?_, Or.inl this⟩
      have := yd_le h2.1
      have h1 : may r < own := h1
      omega)
    rw [y1]
    have hrc : c - (m + 1) = r := by omega
    have hB2 : ∀ t, t ≤ full → (I2 116 (256 * (r + 1) + t)).toInt = (I 116 (256 * (r + 1) + t)).toInt := fun t ht => by rw [y3 _ (by omega), hBc t ht]
    have hD2 : yd_D (fun r x => x &&& may r = x ∧ okc r x) w c (m + 1) full (fun t => (I2 116 (256 * r + t)).toInt) := by
      refine yd_Ds (by omega) (fun own ho => ?_) hD (fun t ht => ?_)
      · rw [hrc] at ho ⊢
        obtain ⟨-, x, -, -, q, -⟩ := hcs r (by omega) I2 y2 own ho.1
        exact q
      · rw [hrc]
        exact yd_acc_cg (y4 t ht) ht (fun t ht => (hBc t ht).symm)
    exact yd_rows hn hc hfull h1 hmay hcs r (m + 1) I2 (by omega) y2 hD2
theorem yd_head (hn : n ≤ 8) (hc : c ≤ 8) (hfull : full = 2 ^ n - 1) (h1 : I0 94 1 = Int32.ofNat n) (h3 : I0 94 3 = Int32.ofNat c) : ∀ (m t : Nat) (I : Nat → Nat → Int32), t + m = full + 1 → yd_ag I0 I → (∀ t', t' < t → (I 116 (256 * c + t')).toInt = if t' = 0 then 0 else yd_FAR) → ∃ I', qX8_solve_h2 (d + 1) v1 (Int32.ofNat t) (I, J, R) = qX8_solve_h47 (d + 1) v1 (Int32.ofNat c + (-1 : Int32)) (I', J, R) ∧ yd_ag I0 I' ∧ ∀ t', t' ≤ full → (I' 116 (256 * c + t')).toInt = if t' = 0 then 0 else yd_FAR
  | 0, t, I, ht, hag, hI => by
    have hf := (yd_full n (by omega)).2
    have g3 : ((I, J, R) : xq_S).1 94 3 = Int32.ofNat c := (hag 94 3 (by decide)).trans h3
    have e9 : Int32.ofNat c - (1 : Int32) = Int32.ofNat c + (-1 : Int32) := by grind
    rw [qX8_solve_h2_eq, yd_night hn ((hag 94 1 (by decide)).trans h1), xb_I1, if_pos ((xr_lt (by omega) (by omega)).mpr (by omega)), g3, e9]
    exact ⟨I, rfl, hag, fun t' h => hI t' (by omega)⟩
  | m + 1, t, I, ht, hag, hI => by
    have hf := (yd_full n (by omega)).2
    have i1 := yd_row c (by omega) t (by omega)
    have c1 := xt_nat (n := 256 * c + t) (by omega)
    have c2 : (Int32.ofNat (256 * c + t)).toInt.toNat = 256 * c + t := by omega
    have a1 : Int32.ofNat t + (1 : Int32) = Int32.ofNat (t + 1) := (Int32.ofNat_add t 1).symm
    have g3 : ((I, J, R) : xq_S).1 94 3 = Int32.ofNat c := (hag 94 3 (by decide)).trans h3
    have go : ∀ x : Int32, x.toInt = (if t = 0 then 0 else yd_FAR) → ∃ I', qX8_solve_h33 (d + 1) v1 (Int32.ofNat t) x (Int32.ofNat (256 * c + t)) (I, J, R) = qX8_solve_h47 (d + 1) v1 (Int32.ofNat c + (-1 : Int32)) (I', J, R) ∧ yd_ag I0 I' ∧ ∀ t', t' ≤ full → (I' 116 (256 * c + t')).toInt = if t' = 0 then 0 else yd_FAR := by
      intro x hx
      rw [qX8_solve_h33_eq, c2, c1, if_pos (by omega), a1]
      refine yd_head hn hc hfull h1 h3 m (t + 1) (xq_upd I 116 (256 * c + t) x) (by omega) (fun k j hk => (xu_k hk).trans (hag k j hk)) (fun t' h => ?_)
      by_cases e : t' = t
      · subst e
        rw [xu_t]
        exact hx
      · rw [xu_j (by omega)]
        exact hI t' (by omega)
    have hz : (¬ Int32.ofNat t = (0 : Int32)) ↔ ¬ t = 0 := by
      constructor
      · intro z q
        exact z (by rw [q]; rfl)
      · intro z q
        have := congrArg Int32.toInt q
        rw [xt_nat (by omega)] at this
        have e0 : (0 : Int32).toInt = 0 := by decide
        omega
    rw [qX8_solve_h2_eq, yd_night hn ((hag 94 1 (by decide)).trans h1), xb_I1, if_neg (fun z => by have := (xr_lt (by omega) (by omega)).mp z; omega), g3, i1]
    by_cases q : t = 0
    · rw [if_neg (fun z => hz.mp z q)]
      exact go 0 (by rw [if_pos q]; decide)
    · rw [if_pos (hz.mpr q)]
      exact go 1000000000 (by rw [if_neg q]; decide)
theorem yd_solve (hn : n ≤ 8) (hc : c ≤ 8) (hfull : full = 2 ^ n - 1) (h1 : I0 94 1 = Int32.ofNat n) (h3 : I0 94 3 = Int32.ofNat c) (hmay : ∀ r, r < c → I0 111 r = Int32.ofNat (may r) ∧ may r &&& full = may r) (hcs : ∀ r, r < c → yd_cs (d + 1) I0 J R v1 r (may r) (okc r) (w r)) : ∃ v I', xq_D xqP (d + 2) 282 [.ref 94, .int v1] (I0, J, R) = some (some (.int v), I', J, R) ∧ yd_ag I0 I' ∧ (0 ≤ v.toInt ∧ v.toInt ≤ yd_FAR) ∧ (v.toInt < yd_FAR → ∃ o, yd_Pr (fun r x => x &&& may r = x ∧ okc r x) c c full o ∧ v.toInt = yd_Sr w c c o) ∧ ∀ o, yd_Pr (fun r x => x &&& may r = x ∧ okc r x) c c full o → v.toInt ≤ yd_Sr w c c o := by
  rw [qX8_solve_eq]
  obtain ⟨I1, x1, x2, x3⟩ := yd_head (d := d) (J := J) (R := R) (v1 := v1) hn hc hfull h1 h3 (full + 1) 0 I0 (by omega) (fun _ _ _ => rfl) (fun t' h => by omega)
  have x1 : qX8_solve_h2 (d + 1) v1 0 (I0, J, R) = _ := x1
  rw [x1]
  obtain ⟨v, I', y1, y2, y3, y4⟩ := yd_rows (d := d) (J := J) (R := R) (v1 := v1) hn hc hfull h1 hmay hcs c 0 I1 (by omega) x2 (yd_D0 (by show (I1 116 (256 * c + 0)).toInt = 0; rw [x3 0 (Nat.zero_le _), if_pos rfl]) (fun t h1 h2 => by show (I1 116 (256 * c + t)).toInt = yd_FAR; rw [x3 t h2, if_neg (by omega)]))
  obtain ⟨z1, z2, z3⟩ := y3 full (Nat.le_refl _)
  simp only [← y4] at z1 z2 z3
  exact ⟨v, I', y1, y2, z1, z2, z3⟩
end YDN
