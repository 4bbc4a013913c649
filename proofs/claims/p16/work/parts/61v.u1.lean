/-! ROUNDS BY MASKS: what a call does not touch is kept -/
/-- slot j of cell k, or the array k, is not in the mask -/
noncomputable def xm (mk k j : Nat) : Bool := match zrget xqT k with
  | some (.inl _) => Bool.not (zbit mk k j)
  | some (.inr _) => Bool.not (zbit mk k 0)
  | none => false
def xz_fr (mk : Nat) (I I' : Nat → Nat → Int32) : Prop := ∀ k j, xv k j = true → xm mk k j = true → I' k j = I k j
section XMF
variable {D : va_G} {tys : List (ClassId × FieldType)} {o : zO} {z : Nat} {b b' : Nat → Nat} {f f' : Nat → Nat → Value} {g g' : Nat → Nat → Int32} {ws ws' : va_W} {H0 H H0' H' : Heap} {locs locs' : List Loc}
theorem xm_fr {mk : Nat} (hv : zV zyI D tys o z H0 b f g ws H locs) (hv' : zV zyI D tys o z H0' b' f' g' ws' H' locs') (h4 : ∀ k j, zbit mk k j = false → f' k j = f k j) (h5 : ∀ k, zbit mk k 0 = false → g' k = g k) : xz_fr mk (xb_I f g) (xb_I f' g') := by
  obtain ⟨hw, hP, hD, hS, rfl, rfl, rfl⟩ := hv
  obtain ⟨hw', hP', hD', hS', rfl, rfl, rfl⟩ := hv'
  intro k j hx hm
  unfold xm at hm
  split at hm
  · rename_i q hT
    obtain ⟨ci, ts⟩ := q
    have hk := xqT_lt hT
    obtain ⟨gs, vs, g1, g2, -⟩ := xb_ob hw (show k < zyI.1 from hk) hT (zfor_ok xz_ckI k hk)
    obtain ⟨gs', vs', g1', g2', -⟩ := xb_ob hw' (show k < zyI.1 from hk) hT (zfor_ok xz_ckI k hk)
    have e := h4 k j (by cases hz : zbit mk k j with
      | false => rfl
      | true => rw [hz] at hm; cases hm)
    have e1 : zwA ws k = fun _ => 0 := by
      unfold zwA
      rw [g2]
    have e2 : zwA ws' k = fun _ => 0 := by
      unfold zwA
      rw [g2']
    unfold xb_I
    rw [e, e1, e2]
  · rename_i q hT
    obtain ⟨t, n⟩ := q
    have hk := xqT_lt hT
    obtain ⟨r, e, cA, g1, g2, -, g4, -⟩ := xb_ar hw (show k < zyI.1 from hk) hT (zfor_ok xz_ckI k hk)
    obtain ⟨r', e', cA', g1', g2', -, g4', -⟩ := xb_ar hw' (show k < zyI.1 from hk) hT (zfor_ok xz_ckI k hk)
    have h := h5 k (by cases hz : zbit mk k 0 with
      | false => rfl
      | true => rw [hz] at hm; cases hm)
    have n1 : ∀ (ws : va_W) (r : zR zAV) (e : va_E) (cA : ClassId), ws[k]? = some (zwB ws k, e) → zae o (zad ws) t n r cA e → zwV ws k j = .null := by
      intro ws r e cA h1 h2
      have : ∃ q, e = .inl q := by
        match t, h2 with
        | 0, ⟨F, h, _⟩ => exact ⟨_, h⟩
        | 1, ⟨F, h, _⟩ => exact ⟨_, h⟩
        | 2, ⟨F, h, _⟩ => exact ⟨_, h⟩
        | 3, ⟨F, h, _⟩ => exact ⟨_, h⟩
        | t + 4, ⟨F, h, _⟩ => exact ⟨_, h⟩
      obtain ⟨q, rfl⟩ := this
      unfold zwV
      rw [h1]
    unfold xb_I
    rw [n1 ws r e cA g2 g4, n1 ws' r' e' cA' g2' g4', h]
  · cases hm
end XMF
/-- slots of which a property speaks: slots of objects, arrays with how many -/
def yT (tO tA : List (Nat × Nat)) (k j : Nat) : Prop := (k, j) ∈ tO ∨ ∃ n, (k, n) ∈ tA ∧ j < n
noncomputable def xa (k n : Nat) : Bool := match zrget xqT k with
  | some (.inr q) => (Nat.beq q.1 0 || (Nat.beq q.1 2 || Nat.beq q.1 3)) && Nat.ble n q.2
  | _ => false
noncomputable def xt_x (tO tA : List (Nat × Nat)) : Bool := tO.all (fun q => xv q.1 q.2) && tA.all (fun q => xa q.1 q.2)
noncomputable def xt_m (mk : Nat) (tO tA : List (Nat × Nat)) : Bool := tO.all (fun q => xm mk q.1 q.2) && tA.all (fun q => xm mk q.1 0)
theorem xt_xv {tO tA : List (Nat × Nat)} (h : xt_x tO tA = true) {k j : Nat} (hk : yT tO tA k j) : xv k j = true := by
  unfold xt_x at h
  rw [Bool.and_eq_true, List.all_eq_true, List.all_eq_true] at h
  rcases hk with hk | ⟨n, hk, hj⟩
  · exact h.1 (k, j) hk
  · have h9 := h.2 (k, n) hk
    unfold xa at h9
    split at h9
    · rename_i q hT
      rw [Bool.and_eq_true] at h9
      have hn := Nat.le_of_ble_eq_true h9.2
      have hn : n ≤ q.2 := hn
      unfold xv
      have hT : zrget xqT k = some (.inr q) := hT
      rw [hT]
      show ((Nat.beq q.1 0 || (Nat.beq q.1 2 || Nat.beq q.1 3)) && Nat.ble (j + 1) q.2) = true
      rw [h9.1, Nat.ble_eq_true_of_le (by omega)]
      rfl
    · cases h9
theorem xt_fr {mk : Nat} {tO tA : List (Nat × Nat)} (hx : xt_x tO tA = true) (hm : xt_m mk tO tA = true) {I I' : Nat → Nat → Int32} (h : xz_fr mk I I') {k j : Nat} (hk : yT tO tA k j) : I' k j = I k j := by
  refine h k j (xt_xv hx hk) ?_
  unfold xt_x at hx
  unfold xt_m at hm
  rw [Bool.and_eq_true, List.all_eq_true, List.all_eq_true] at hm hx
  rcases hk with hk | ⟨n, hk, hj⟩
  · exact hm.1 (k, j) hk
  · have h9 := hm.2 (k, n) hk
    have h8 := hx.2 (k, n) hk
    have h9 : xm mk k 0 = true := h9
    unfold xa at h8
    split at h8
    · rename_i q hT
      have hT : zrget xqT k = some (.inr q) := hT
      unfold xm at h9 ⊢
      rw [hT] at h9 ⊢
      exact h9
    · cases h8
/-- a round by masks -/
def yRm (B : (Nat → Nat → Int32) → Prop) (d1 m1 k1 d2 m2 k2 : Nat) (xs : List Int32) (cmp : Prop) (P : (Nat → Nat → Int32) → Prop) (I : Nat → Nat → Int32) : Prop := ∀ J R, xz_R R → ∃ a I1 J1 R1, xq_D xqP d1 m1 (.ref 0 :: xs.map Value.int) (I, J, R) = some (some (.int a), I1, J1, R1) ∧ ∀ I1', xz_eq I1 I1' → xz_fr k1 I I1' → B I1' → ∀ J' R', xz_R R' → ∃ b I2 J2 R2, xq_D xqP d2 m2 (.ref 94 :: xs.map Value.int) (I1', J', R') = some (some (.int b), I2, J2, R2) ∧ (cmp → a = b) ∧ ∀ I2', xz_eq I2 I2' → xz_fr k2 I1' I2' → B I2' → P I2'
theorem yRm_mk {B : (Nat → Nat → Int32) → Prop} {d1 m1 k1 d2 m2 k2 : Nat} {xs : List Int32} {cmp : Prop} {P : (Nat → Nat → Int32) → Prop} {I : Nat → Nat → Int32} (h : ∀ J R, xz_R R → ∃ a I1, (∃ J1 R1, xq_D xqP d1 m1 (.ref 0 :: xs.map Value.int) (I, J, R) = some (some (.int a), I1, J1, R1)) ∧ ∀ I1', xz_eq I1 I1' → xz_fr k1 I I1' → B I1' → ∀ J' R', xz_R R' → ∃ b I2, (∃ J2 R2, xq_D xqP d2 m2 (.ref 94 :: xs.map Value.int) (I1', J', R') = some (some (.int b), I2, J2, R2)) ∧ (cmp → a = b) ∧ ∀ I2', xz_eq I2 I2' → xz_fr k2 I1' I2' → B I2' → P I2') : yRm B d1 m1 k1 d2 m2 k2 xs cmp P I := by
  intro J R hR
  obtain ⟨a, I1, ⟨J1, R1, h1⟩, h2⟩ := h J R hR
  refine ⟨a, I1, J1, R1, h1, fun I1' he hf hB J' R' hR' => ?_⟩
  obtain ⟨b, I2, ⟨J2, R2, h3⟩, h4⟩ := h2 I1' he hf hB J' R' hR'
  exact ⟨b, I2, J2, R2, h3, h4⟩
/-- a round that was told without masks -/
theorem yRm_of {B B' : (Nat → Nat → Int32) → Prop} {d1 m1 k1 d2 m2 k2 : Nat} {xs : List Int32} {cmp : Prop} {P P' : (Nat → Nat → Int32) → Prop} {I : Nat → Nat → Int32} (hBB : ∀ I, B' I → B I) (hr : yRd B d1 m1 d2 m2 xs cmp P I) (h : ∀ I1' I2 I2', xz_fr k1 I I1' → B' I1' → P I2 → xz_eq I2 I2' → xz_fr k2 I1' I2' → B' I2' → P' I2') : yRm B' d1 m1 k1 d2 m2 k2 xs cmp P' I := by
  intro J R hR
  obtain ⟨a, I1, J1, R1, h1, h2⟩ := hr J R hR
  refine ⟨a, I1, J1, R1, h1, fun I1' he hf hB J' R' hR' => ?_⟩
  obtain ⟨b, I2, J2, R2, h3, h4, h5⟩ := h2 I1' he (hBB _ hB) J' R' hR'
  exact ⟨b, I2, J2, R2, h3, h4, fun I2' he2 hf2 hB2 => h I1' I2 I2' hf hB h5 he2 hf2 hB2⟩
theorem yRm_F {B : (Nat → Nat → Int32) → Prop} {d1 m1 k1 d2 m2 k2 : Nat} {xs : List Int32} {cmp : Prop} {P : (Nat → Nat → Int32) → Prop} {I : Nat → Nat → Int32} (hr : yRm B d1 m1 k1 d2 m2 k2 xs cmp P I) : yRm B d1 m1 k1 d2 m2 k2 xs False P I := by
  intro J R hR
  obtain ⟨a, I1, J1, R1, h1, h2⟩ := hr J R hR
  refine ⟨a, I1, J1, R1, h1, fun I1' he hf hB J' R' hR' => ?_⟩
  obtain ⟨b, I2, J2, R2, h3, h4, h5⟩ := h2 I1' he hf hB J' R' hR'
  exact ⟨b, I2, J2, R2, h3, fun z => z.elim, h5⟩
