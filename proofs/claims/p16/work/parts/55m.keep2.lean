/-! what is kept, by values -/
noncomputable def xz_sh (tO : List (Nat × Nat)) (tA : List Nat) (h : zH) : Bool := Nat.ble 126 h.1 && (zall (fun k => Nat.ble (k + 1) 126 && (match zrget h.2.1 k with
  | some (.inl _) => true
  | _ => false)) tA && zall (fun q : Nat × Nat => Nat.ble (q.1 + 1) 126 && (match zrget h.2.1 q.1 with
  | some (.inr _) => true
  | _ => false)) tO)
noncomputable def xz_ck (cs : List (Nat × Nat × Int)) (as : List (Nat × Nat × Nat × Int)) (h : zH) : Bool := zall (fun q : Nat × Nat × Int => Nat.ble (q.1 + 1) 126 && (match zrget h.2.1 q.1 with
  | some (.inr c) => (match zget c.2 q.2.1 with
    | some (.inl a) => zle q.2.2 a.1.1 && zle a.1.2 q.2.2
    | _ => false)
  | _ => false)) cs && zall (fun q : Nat × Nat × Nat × Int => Nat.ble (q.1 + 1) 126 && (match zrget h.2.1 q.1 with
  | some (.inl (t, n, r)) => (Nat.beq t 0 || (Nat.beq t 2 || Nat.beq t 3)) && (Nat.ble q.2.2.1 n && zfor (fun i => Nat.ble (i + 1) q.2.1 || (match zaget r i with
    | some (.inl a) => zle q.2.2.2 a.1.1 && zle a.1.2 q.2.2.2
    | _ => false)) q.2.2.1)
  | _ => false)) as
def xz_ex (tO : List (Nat × Nat)) (tA : List Nat) (ws : va_W) : Prop := (∀ k ∈ tA, ∃ a x, ws[k]? = some (a, Sum.inl x)) ∧ ∀ q ∈ tO, ∃ a y, ws[q.1]? = some (a, Sum.inr y)
/-- slots, arrays that a property P speaks of; how it stands at first -/
noncomputable def zjQ (tO : List (Nat × Nat)) (tA : List Nat) (cs : List (Nat × Nat × Int)) (as : List (Nat × Nat × Nat × Int)) (P : (Nat → Nat → Int32) → Prop) : zJ := (fun d => tO.any (fun q => zbit d q.1 q.2) || tA.any (fun k => zbit d k 0), fun c => xz_sh tO tA c.2.2.1 && xz_ck cs as c.2.2.1, fun ws => xz_ex tO tA ws ∧ P (xz_I ws))
def xz_C (tO : List (Nat × Nat)) (tA : List Nat) (P : (Nat → Nat → Int32) → Prop) : Prop := ∀ I I' : Nat → Nat → Int32, (∀ q ∈ tO, I' q.1 q.2 = I q.1 q.2) → (∀ k ∈ tA, ∀ j, I' k j = I k j) → P I → P I'
def xz_Z (cs : List (Nat × Nat × Int)) (as : List (Nat × Nat × Nat × Int)) (P : (Nat → Nat → Int32) → Prop) : Prop := ∀ I : Nat → Nat → Int32, (∀ q ∈ cs, (I q.1 q.2.1).toInt = q.2.2) → (∀ q ∈ as, ∀ i, q.2.1 ≤ i → i < q.2.2.1 → (I q.1 i).toInt = q.2.2.2) → P I
theorem xz_Io {ws : va_W} {k a ci : Nat} {vs : List Value} (h : ws[k]? = some (a, .inr (ci, vs))) (j : Nat) : xz_I ws k j = match vs[j]? with
  | some (.int x) => x
  | _ => 0 := by
  unfold xz_I xb_I zwV zwA
  rw [h]
  dsimp only
  cases hv : vs[j]? with
  | none => rfl
  | some v => cases v <;> rfl
theorem xz_Ia {ws ws' : va_W} {k a a' : Nat} {x : ClassId × vp_A} (h : ws[k]? = some (a, .inl x)) (h' : ws'[k]? = some (a', .inl x)) (j : Nat) : xz_I ws' k j = xz_I ws k j := by
  unfold xz_I xb_I zwV zwA
  rw [h, h']
  obtain ⟨c, n, F⟩ := x
  rcases F with F | F <;> rfl
theorem zjQ_ok {D : va_G} {tys : List (ClassId × FieldType)} {z : Nat} {tO : List (Nat × Nat)} {tA : List Nat} {cs : List (Nat × Nat × Int)} {as : List (Nat × Nat × Nat × Int)} {P : (Nat → Nat → Int32) → Prop} (hC : xz_C tO tA P) (hZ : xz_Z cs as P) : zJok D tys z (zjQ tO tA cs as P) := by
  refine ⟨fun d ws ws' hb hc h => ?_, fun o ws0 H0 c ls vst H locs ws S h => ?_⟩
  · have hb : (tO.any (fun q => zbit d q.1 q.2) || tA.any (fun k => zbit d k 0)) = false := hb
    rw [Bool.or_eq_false_iff, List.any_eq_false, List.any_eq_false] at hb
    obtain ⟨hbO, hbA⟩ := hb
    obtain ⟨⟨hA, hO⟩, hP⟩ := h
    refine ⟨⟨fun k hk => ?_, fun q hq => ?_⟩, hC _ _ (fun q hq => ?_) (fun k hk j => ?_) hP⟩
    · obtain ⟨a, x, hx⟩ := hA k hk
      obtain ⟨e', h1, h2⟩ := hc k a _ hx
      obtain ⟨x', rfl, -⟩ := h2
      exact ⟨a, x', h1⟩
    · obtain ⟨a, y, hy⟩ := hO q hq
      obtain ⟨e', h1, h2⟩ := hc q.1 a _ hy
      obtain ⟨vs', rfl, -⟩ := h2
      exact ⟨a, _, h1⟩
    · obtain ⟨a, y, hy⟩ := hO q hq
      obtain ⟨ci, vs⟩ := y
      obtain ⟨vs', h1, h2⟩ := zkeptR hc hy (Bool.eq_false_iff.mpr (hbO q hq))
      rw [xz_Io hy, xz_Io h1, h2]
    · obtain ⟨a, x, hx⟩ := hA k hk
      obtain ⟨e', h1, h2⟩ := hc k a _ hx
      obtain ⟨x', rfl, h3⟩ := h2
      have h3 := h3 (Bool.eq_false_iff.mpr (hbA k hk))
      subst h3
      exact xz_Ia hx h1 j
  · have h : (xz_sh tO tA c.2.2.1 && xz_ck cs as c.2.2.1) = true := h
    unfold xz_sh xz_ck at h
    simp only [Bool.and_eq_true] at h
    obtain ⟨⟨h0, hA, hO⟩, hcs, has⟩ := h
    have h0 := Nat.le_of_ble_eq_true h0
    have hw := S.2.2.1
    refine ⟨⟨fun k hk => ?_, fun q hq => ?_⟩, hZ _ (fun q hq => ?_) (fun q hq i h1 h2 => ?_)⟩
    · have h9 := zall_mem hA k hk
      rw [Bool.and_eq_true] at h9
      have k1 := Nat.le_of_ble_eq_true h9.1
      have k2 := h9.2
      split at k2
      · rename_i q9 hc9
        obtain ⟨c9, a, e, g1, g2, g3⟩ := hw.2 k (by omega)
        rw [hc9] at g1
        cases g1
        obtain ⟨cA, -, hz⟩ := g3
        obtain ⟨t, n, r⟩ := q9
        match t, hz with
        | 0, ⟨F, he, _⟩ => subst he; exact ⟨a, _, g2⟩
        | 1, ⟨F, he, _⟩ => subst he; exact ⟨a, _, g2⟩
        | 2, ⟨F, he, _⟩ => subst he; exact ⟨a, _, g2⟩
        | 3, ⟨F, he, _⟩ => subst he; exact ⟨a, _, g2⟩
        | t + 4, ⟨F, he, _⟩ => subst he; exact ⟨a, _, g2⟩
      · cases k2
    · have h9 := zall_mem hO q hq
      rw [Bool.and_eq_true] at h9
      have k1 := Nat.le_of_ble_eq_true h9.1
      have k2 := h9.2
      split at k2
      · rename_i q9 hc9
        obtain ⟨c9, a, e, g1, g2, g3⟩ := hw.2 q.1 (by omega)
        rw [hc9] at g1
        cases g1
        obtain ⟨vs, rfl, -⟩ := g3
        exact ⟨a, _, g2⟩
      · cases k2
    · have h9 := zall_mem hcs q hq
      rw [Bool.and_eq_true] at h9
      have hk := Nat.le_of_ble_eq_true h9.1
      have h9 := h9.2
      split at h9
      · rename_i c8 hc8
        split at h9
        · rename_i a9 ha9
          rw [zget_eq] at ha9
          simp only [Bool.and_eq_true, zle_iff] at h9
          obtain ⟨c9, a, e, g1, g2, g3⟩ := hw.2 q.1 (by omega)
          rw [hc8] at g1
          cases g1
          obtain ⟨vs, rfl, hvs⟩ := g3
          obtain ⟨v, w1, w2⟩ := zr2_get _ hvs ha9
          obtain ⟨x, rfl, hx1, hx2⟩ := w2
          rw [xz_Io g2, w1]
          show x.toInt = _
          omega
        · cases h9
      · cases h9
    · have h9 := zall_mem has q hq
      rw [Bool.and_eq_true] at h9
      have hk := Nat.le_of_ble_eq_true h9.1
      have h9 := h9.2
      split at h9
      · rename_i t n r hc8
        simp only [Bool.and_eq_true, Bool.or_eq_true] at h9
        obtain ⟨ht, hn, hf⟩ := h9
        have hn := Nat.le_of_ble_eq_true hn
        have hi := zfor_ok hf i h2
        have hi : (Nat.ble (i + 1) q.2.1 || (match zaget r i with
          | some (.inl a) => zle q.2.2.2 a.1.1 && zle a.1.2 q.2.2.2
          | _ => false)) = true := hi
        rw [Bool.or_eq_true] at hi
        have hi := hi.resolve_left (fun z9 => by have := Nat.le_of_ble_eq_true z9; omega)
        split at hi
        · rename_i a9 ha9
          simp only [Bool.and_eq_true, zle_iff] at hi
          obtain ⟨c9, a, e, g1, g2, g3⟩ := hw.2 q.1 (by omega)
          rw [hc8] at g1
          cases g1
          obtain ⟨cA, -, hz⟩ := g3
          have key : ∀ F : Nat → Int32, e = .inl (cA, n, .inl F) → (∀ i, i < n → ∃ a, zaget r i = some a ∧ zgH o (zad ws) a (.int (F i))) → (xz_I ws q.1 i).toInt = q.2.2.2 := by
            intro F he hF
            subst he
            obtain ⟨a8, i1, i2⟩ := hF i (by omega)
            rw [ha9] at i1
            cases i1
            obtain ⟨x, hx, hx1, hx2⟩ := i2
            cases hx
            have hn : zwV ws q.1 i = .null := by
              unfold zwV
              rw [g2]
            unfold xz_I xb_I
            rw [hn, zwA_of g2]
            show (F i).toInt = _
            omega
          rcases ht with q9 | q9 | q9
          · have := Nat.eq_of_beq_eq_true q9
            subst this
            obtain ⟨F, he, hF⟩ := hz
            exact key F he hF
          · have := Nat.eq_of_beq_eq_true q9
            subst this
            obtain ⟨F, he, hF⟩ := hz
            exact key F he hF
          · have := Nat.eq_of_beq_eq_true q9
            subst this
            obtain ⟨F, he, hF⟩ := hz
            exact key F he hF
        · cases hi
      · cases h9
/-- a world as at a head has them -/
theorem xz_ex_of {tys : List (ClassId × FieldType)} {o : zO} {ws : va_W} {tO : List (Nat × Nat)} {tA : List Nat} {h : zH} (hw : zwr vwCl tys o h ws) (hs : xz_sh tO tA h = true) : xz_ex tO tA ws := by
  unfold xz_sh at hs
  simp only [Bool.and_eq_true] at hs
  obtain ⟨h0, hA, hO⟩ := hs
  have h0 := Nat.le_of_ble_eq_true h0
  refine ⟨fun k hk => ?_, fun q hq => ?_⟩
  · have h9 := zall_mem hA k hk
    rw [Bool.and_eq_true] at h9
    have k1 := Nat.le_of_ble_eq_true h9.1
    have k2 := h9.2
    split at k2
    · rename_i q9 hc9
      obtain ⟨c9, a, e, g1, g2, g3⟩ := hw.2 k (by omega)
      rw [hc9] at g1
      cases g1
      obtain ⟨cA, -, hz⟩ := g3
      obtain ⟨t, n, r⟩ := q9
      match t, hz with
      | 0, ⟨F, he, _⟩ => subst he; exact ⟨a, _, g2⟩
      | 1, ⟨F, he, _⟩ => subst he; exact ⟨a, _, g2⟩
      | 2, ⟨F, he, _⟩ => subst he; exact ⟨a, _, g2⟩
      | 3, ⟨F, he, _⟩ => subst he; exact ⟨a, _, g2⟩
      | t + 4, ⟨F, he, _⟩ => subst he; exact ⟨a, _, g2⟩
    · cases k2
  · have h9 := zall_mem hO q hq
    rw [Bool.and_eq_true] at h9
    have k1 := Nat.le_of_ble_eq_true h9.1
    have k2 := h9.2
    split at k2
    · rename_i q9 hc9
      obtain ⟨c9, a, e, g1, g2, g3⟩ := hw.2 q.1 (by omega)
      rw [hc9] at g1
      cases g1
      obtain ⟨vs, rfl, -⟩ := g3
      exact ⟨a, _, g2⟩
    · cases k2
/-- the order of cells that rule() changes -/
theorem xz_pm {tO : List (Nat × Nat)} {tA : List Nat} {cs : List (Nat × Nat × Int)} {as : List (Nat × Nat × Nat × Int)} {P : (Nat → Nat → Int32) → Prop} (hC : xz_C tO tA P) (hf : (tO.all (fun q => Nat.beq (zpm zPS q.1) q.1) && tA.all (fun k => Nat.beq (zpm zPS k) k)) = true) {ws : va_W} (hp : zpmok zPS ws.length = true) (h : (zjQ tO tA cs as P).2.2 ws) : (zjQ tO tA cs as P).2.2 (zpmw (zpm zPS) ws) := by
  rw [Bool.and_eq_true, List.all_eq_true, List.all_eq_true] at hf
  obtain ⟨⟨hA, hO⟩, hP⟩ := h
  have g : ∀ k, zpm zPS k = k → ∀ x, ws[k]? = some x → (zpmw (zpm zPS) ws)[k]? = some x := by
    intro k hk x hx
    rw [zpmw_get (fun k hk => (zpm_of hp k hk).1), if_pos (List.getElem?_eq_some_iff.mp hx).1, hk]
    exact hx
  refine ⟨⟨fun k hk => ?_, fun q hq => ?_⟩, hC _ _ (fun q hq => ?_) (fun k hk j => ?_) hP⟩
  · obtain ⟨a, x, hx⟩ := hA k hk
    exact ⟨a, x, g k (Nat.eq_of_beq_eq_true (hf.2 k hk)) _ hx⟩
  · obtain ⟨a, y, hy⟩ := hO q hq
    exact ⟨a, y, g q.1 (Nat.eq_of_beq_eq_true (hf.1 q hq)) _ hy⟩
  · obtain ⟨a, y, hy⟩ := hO q hq
    obtain ⟨ci, vs⟩ := y
    rw [xz_Io hy, xz_Io (g q.1 (Nat.eq_of_beq_eq_true (hf.1 q hq)) _ hy)]
  · obtain ⟨a, x, hx⟩ := hA k hk
    exact xz_Ia hx (g k (Nat.eq_of_beq_eq_true (hf.2 k hk)) _ hx) j
theorem xz_0 {tO : List (Nat × Nat)} {tA : List Nat} {cs : List (Nat × Nat × Int)} {as : List (Nat × Nat × Nat × Int)} {P : (Nat → Nat → Int32) → Prop} : (zjQ tO tA cs as P).1 0 = false := by
  show (tO.any (fun q => zbit 0 q.1 q.2) || tA.any (fun k => zbit 0 k 0)) = false
  rw [Bool.or_eq_false_iff, List.any_eq_false, List.any_eq_false]
  exact ⟨fun q _ => by rw [zb0R]; decide, fun k _ => by rw [zb0R]; decide⟩
