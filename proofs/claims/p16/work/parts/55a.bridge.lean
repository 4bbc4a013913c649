/-! exact functions and walks together -/
def xb_b (f : Nat → Nat → Value) (b : Nat → Nat) (n : Nat) : Nat := if n < 1000 then b n else match f ((n - 1000) / 64) ((n - 1000) % 64) with
  | .ref a => a
  | _ => 0
def xb_I (f : Nat → Nat → Value) (g : Nat → Nat → Int32) (k j : Nat) : Int32 := match f k j with
  | .int x => x
  | _ => g k j
def xb_J (ws : va_W) (k j : Nat) : Int64 := match ws[k]? with
  | some (_, .inl (_, _, .inr (.inl F))) => F j
  | some (_, .inr (_, vs)) => (match vs[j]? with
    | some (.long x) => x
    | _ => 0)
  | _ => 0
noncomputable def xb_R (h : zH) (f : Nat → Nat → Value) (k j : Nat) : Nat := match zrget h.2.1 k with
  | some (.inr (_, gs)) => (match gs[j]? with
    | some (.inr (.inr (.inl k'))) => k'
    | _ => (match f k j with
      | .ref _ => 1000 + 64 * k + j
      | _ => 0))
  | _ => 0
/-- a world's shape is that of the exact functions -/
noncomputable def xb_sl (k j : Nat) (a : zAV) (t : Nat) : Bool := match t with
  | 0 => (match a with
    | .inl _ => true
    | _ => false)
  | 1 => (match a with
    | .inr (.inl _) => true
    | _ => false)
  | 2 => (match a with
    | .inr (.inr (.inl k')) => Nat.beq k' (xq_sr k j)
    | _ => false)
  | 3 => (match a with
    | .inr (.inr (.inl k')) => Nat.ble 1 k' && Nat.ble k' 999
    | .inr (.inr (.inr (.inr _))) => Nat.ble j 63
    | _ => false)
  | _ => (match a with
    | .inl _ => true
    | _ => false)
noncomputable def xb_sls (k : Nat) : Nat → List zAV → List Nat → Bool
  | _, [], [] => true
  | j, a :: gs, t :: ts => xb_sl k j a t && xb_sls k (j + 1) gs ts
  | _, _, _ => false
def xb_N (cl : List vw_C) (ci : Nat) : Nat := match cl[ci]? with
  | some r => r.2.2
  | none => 0
noncomputable def xb_arr (k t n : Nat) (r : zR zAV) : Bool := match t with
  | 0 => true
  | 1 => true
  | 2 => true
  | 3 => true
  | _ => zfor (fun i => match zaget r i with
    | some (.inr (.inr (.inl k'))) => Nat.beq k' (xq_sr k i)
    | _ => false) n
theorem xb_sl0 {k j : Nat} {a : zAV} (h : xb_sl k j a 0 = true) : ∃ q, a = .inl q := by
  rcases a with q | q | q | q | q
  · exact ⟨q, rfl⟩
  all_goals exact absurd h Bool.false_ne_true
theorem xb_sl1 {k j : Nat} {a : zAV} (h : xb_sl k j a 1 = true) : ∃ q, a = .inr (.inl q) := by
  rcases a with q | q | q | q | q
  · exact absurd h Bool.false_ne_true
  · exact ⟨q, rfl⟩
  all_goals exact absurd h Bool.false_ne_true
theorem xb_sl2 {k j : Nat} {a : zAV} (h : xb_sl k j a 2 = true) : a = .inr (.inr (.inl (xq_sr k j))) := by
  rcases a with q | q | q | q | q
  · exact absurd h Bool.false_ne_true
  · exact absurd h Bool.false_ne_true
  · have h : Nat.beq q (xq_sr k j) = true := h
    rw [Nat.eq_of_beq_eq_true h]
  all_goals exact absurd h Bool.false_ne_true
theorem xb_sl3 {k j : Nat} {a : zAV} (h : xb_sl k j a 3 = true) : (∃ k', a = .inr (.inr (.inl k')) ∧ 1 ≤ k' ∧ k' ≤ 999) ∨ ∃ k', a = .inr (.inr (.inr (.inr k'))) ∧ j ≤ 63 := by
  rcases a with q | q | q | q | q
  · exact absurd h Bool.false_ne_true
  · exact absurd h Bool.false_ne_true
  · have h : (Nat.ble 1 q && Nat.ble q 999) = true := h
    rw [Bool.and_eq_true] at h
    exact Or.inl ⟨q, rfl, Nat.le_of_ble_eq_true h.1, Nat.le_of_ble_eq_true h.2⟩
  · exact absurd h Bool.false_ne_true
  · have h : Nat.ble j 63 = true := h
    exact Or.inr ⟨q, rfl, Nat.le_of_ble_eq_true h⟩
theorem xb_sl4 {k j t : Nat} {a : zAV} (h : xb_sl k j a (t + 4) = true) : ∃ q, a = .inl q := by
  rcases a with q | q | q | q | q
  · exact ⟨q, rfl⟩
  all_goals exact absurd h Bool.false_ne_true
noncomputable def xb_ck (h : zH) (k : Nat) : Bool := match zrget h.2.1 k, zrget xqT k with
  | some (.inr (ci, gs)), some (.inl (ci', ts)) => Nat.beq ci ci' && (xb_sls k 0 gs ts && Nat.ble ts.length (xb_N vwCl ci))
  | some (.inl (t, n, r)), some (.inr (t', n')) => Nat.beq t t' && (Nat.beq n n' && xb_arr k t n r)
  | _, _ => false
theorem xb_sls_at {k : Nat} : ∀ {j0 : Nat} {gs : List zAV} {ts : List Nat}, xb_sls k j0 gs ts = true → gs.length = ts.length ∧ ∀ j t, ts[j]? = some t → ∃ a, gs[j]? = some a ∧ xb_sl k (j0 + j) a t = true
  | j0, [], [], _ => ⟨rfl, fun j t h => by simp at h⟩
  | j0, a :: gs, t :: ts, h => by
    have h : (xb_sl k j0 a t && xb_sls k (j0 + 1) gs ts) = true := h
    rw [Bool.and_eq_true] at h
    obtain ⟨h1, h2⟩ := xb_sls_at h.2
    refine ⟨by simp [h1], fun j t' hj => ?_⟩
    cases j with
    | zero => exact ⟨a, rfl, by rw [List.getElem?_cons_zero] at hj; cases hj; exact h.1⟩
    | succ j =>
      rw [List.getElem?_cons_succ] at hj
      obtain ⟨a', q1, q2⟩ := h2 j t' hj
      exact ⟨a', by rw [List.getElem?_cons_succ]; exact q1, by rw [show j0 + (j + 1) = j0 + 1 + j by omega]; exact q2⟩
  | _, [], _ :: _, h => by cases h
  | _, _ :: _, [], h => by cases h
theorem xqT_lt {k : Nat} {sh : xq_Sh} (h : zrget xqT k = some sh) : k < 126 := by
  refine Nat.lt_of_not_le fun hk => ?_
  unfold zrget at h
  split at h
  · cases h
  · rename_i r hr
    rw [zget_eq] at hr h
    have h8 : k / 16 < 8 := (List.getElem?_eq_some_iff.mp hr).1
    have e7 : k / 16 = 7 := by omega
    rw [e7] at hr
    have er : r.length = 14 := by
      have : (xqT[7]?).map List.length = some 14 := by decide +kernel
      rw [hr] at this
      exact Option.some.inj this
    have := (List.getElem?_eq_some_iff.mp h).1
    omega
noncomputable def xb_S (h : zH) (f : Nat → Nat → Value) (g : Nat → Nat → Int32) (ws : va_W) : xq_S := (xb_I f g, xb_J ws, xb_R h f)
theorem xb_b_lt {f : Nat → Nat → Value} {b : Nat → Nat} {n : Nat} (h : n < 1000) : xb_b f b n = b n := if_pos h
theorem xqR_all : (xqR.all fun r => r.all fun l => l.all fun n => Nat.ble n 999) = true := by decide +kernel
theorem xq_sr_lt (k j : Nat) : xq_sr k j < 1000 := by
  unfold xq_sr
  split
  · rename_i l hl
    split
    · rename_i n hn
      unfold zrget at hl
      split at hl
      · cases hl
      · rename_i r hr
        rw [zget_eq] at hr hl hn
        have h1 := List.all_eq_true.mp xqR_all r (List.mem_of_getElem? hr)
        have h2 := List.all_eq_true.mp h1 l (List.mem_of_getElem? hl)
        have h3 := List.all_eq_true.mp h2 n (List.mem_of_getElem? hn)
        have := Nat.le_of_ble_eq_true h3
        omega
    · decide
  · decide
section XQB
variable {l : Launch} {D : va_G} {tys : List (ClassId × FieldType)} {o : zO} {z : Nat} {h : zH} {b : Nat → Nat} {f : Nat → Nat → Value} {g : Nat → Nat → Int32} {ws : va_W}
theorem xb_ob (hw : zwr vwCl tys o h ws) {k : Nat} (hk : k < h.1) {ci : Nat} {ts : List Nat} (hT : zrget xqT k = some (.inl (ci, ts))) (hc : xb_ck h k = true) : ∃ gs vs, zrget h.2.1 k = some (.inr (ci, gs)) ∧ ws[k]? = some (zwB ws k, .inr (ci, vs)) ∧ zr2 (zgH o (zad ws)) gs vs ∧ vs.length = ts.length ∧ gs.length = ts.length ∧ ts.length ≤ xb_N vwCl ci ∧ ∀ j t, ts[j]? = some t → ∃ a v, gs[j]? = some a ∧ vs[j]? = some v ∧ zgH o (zad ws) a v ∧ xb_sl k j a t = true := by
  obtain ⟨c, a, e, h1, h2, h3⟩ := hw.2 k hk
  unfold xb_ck at hc
  rw [h1, hT] at hc
  cases c with
  | inl q => cases hc
  | inr q =>
    obtain ⟨ci', gs⟩ := q
    have hc : (Nat.beq ci' ci && (xb_sls k 0 gs ts && Nat.ble ts.length (xb_N vwCl ci'))) = true := hc
    rw [Bool.and_eq_true, Bool.and_eq_true] at hc
    have e1 := Nat.eq_of_beq_eq_true hc.1
    subst e1
    obtain ⟨vs, rfl, hvs⟩ := h3
    have h2 : ws[k]? = some (a, .inr (ci', vs)) := h2
    obtain ⟨s1, s2⟩ := xb_sls_at hc.2.1
    refine ⟨gs, vs, h1, by rw [zwB_of h2]; exact h2, hvs, by rw [← zr2_len hvs]; exact s1, s1, Nat.le_of_ble_eq_true hc.2.2, fun j t hj => ?_⟩
    obtain ⟨a', q1, q2⟩ := s2 j t hj
    obtain ⟨v, q3, q4⟩ := zr2_get j hvs q1
    rw [Nat.zero_add] at q2
    exact ⟨a', v, q1, q3, q4, q2⟩
theorem xb_ar (hw : zwr vwCl tys o h ws) {k : Nat} (hk : k < h.1) {t n : Nat} (hT : zrget xqT k = some (.inr (t, n))) (hc : xb_ck h k = true) : ∃ r e cA, zrget h.2.1 k = some (.inl (t, n, r)) ∧ ws[k]? = some (zwB ws k, e) ∧ (cA, zty vwCl t) ∈ tys ∧ zae o (zad ws) t n r cA e ∧ (4 ≤ t → ∀ i, i < n → zaget r i = some (.inr (.inr (.inl (xq_sr k i))))) := by
  obtain ⟨c, a, e, h1, h2, h3⟩ := hw.2 k hk
  unfold xb_ck at hc
  rw [h1, hT] at hc
  cases c with
  | inr q => cases hc
  | inl q =>
    obtain ⟨t', n', r⟩ := q
    have hc : (Nat.beq t' t && (Nat.beq n' n && xb_arr k t' n' r)) = true := hc
    rw [Bool.and_eq_true, Bool.and_eq_true] at hc
    have e1 := Nat.eq_of_beq_eq_true hc.1
    have e2 := Nat.eq_of_beq_eq_true hc.2.1
    subst e1
    subst e2
    obtain ⟨cA, hA, hz⟩ := h3
    refine ⟨r, e, cA, h1, by rw [zwB_of h2]; exact h2, hA, hz, fun h4 i hi => ?_⟩
    have hz5 := hc.2.2
    match t', h4, hz5 with
    | t + 4, _, hz5 =>
      have hz5 : zfor (fun i => match zaget r i with
        | some (.inr (.inr (.inl k'))) => Nat.beq k' (xq_sr k i)
        | _ => false) n' = true := hz5
      have h5 := zfor_ok hz5 i hi
      split at h5
      · rename_i k' hk'
        rw [Nat.eq_of_beq_eq_true h5] at hk'
        exact hk'
      · cases h5
/-- what a world says -/
theorem xb_rd (hw : zwr vwCl tys o h ws) (h126 : h.1 = 126) (hc : zfor (xb_ck h) 126 = true) : xq_r (xb_b (zwV ws) (zwB ws)) vwCl tys (xb_S h (zwV ws) (zwA ws) ws) ws := by
  intro k sh hT
  have hk := xqT_lt hT
  have hck := zfor_ok hc k hk
  have bk := xb_b_lt (f := zwV ws) (b := zwB ws) (n := k) (by omega)
  rw [← h126] at hk
  cases sh with
  | inl q =>
    obtain ⟨ci, ts⟩ := q
    obtain ⟨gs, vs, g1, g2, g3, g4, g5, g6, g7⟩ := xb_ob hw hk hT hck
    refine ⟨.inr (ci, vs), by rw [bk]; exact g2, vs, rfl, g4, fun j t hj => ?_⟩
    obtain ⟨a, v, q1, q2, q3, q4⟩ := g7 j t hj
    have hV : zwV ws k j = v := zwV_of g2 q2
    rw [q2]
    match t, q4 with
    | 0, q4 =>
      obtain ⟨q, rfl⟩ := xb_sl0 q4
      obtain ⟨x, rfl, -⟩ := q3
      show _ = some (Value.int (xb_I (zwV ws) (zwA ws) k j))
      unfold xb_I
      rw [hV]
    | 1, q4 =>
      obtain ⟨q, rfl⟩ := xb_sl1 q4
      obtain ⟨x, rfl, -⟩ := q3
      show _ = some (Value.long (xb_J ws k j))
      unfold xb_J
      rw [g2]
      dsimp only
      rw [q2]
    | 2, q4 =>
      have hq := xb_sl2 q4
      subst hq
      obtain ⟨a', ha, rfl⟩ := q3
      obtain ⟨e', he⟩ := zad_some ha
      show _ = some (Value.ref (xb_b (zwV ws) (zwB ws) (xq_sr k j)))
      rw [xb_b_lt (xq_sr_lt k j), zwB_of he]
    | 3, q4 =>
      show some v = some (if xb_R h (zwV ws) k j = 0 then Value.null else .ref (xb_b (zwV ws) (zwB ws) (xb_R h (zwV ws) k j)))
      rcases xb_sl3 q4 with ⟨k', rfl, i1, i2⟩ | ⟨k', rfl, i1⟩
      · obtain ⟨a', ha, rfl⟩ := q3
        obtain ⟨e', he⟩ := zad_some ha
        have eR : xb_R h (zwV ws) k j = k' := by
          unfold xb_R
          rw [g1]
          dsimp only
          rw [q1]
        rw [eR, if_neg (by omega), xb_b_lt (by omega), zwB_of he]
      · have eR : xb_R h (zwV ws) k j = (match zwV ws k j with
          | .ref _ => 1000 + 64 * k + j
          | _ => 0) := by
          unfold xb_R
          rw [g1]
          dsimp only
          rw [q1]
        rw [hV] at eR
        rcases q3.2 with rfl | ⟨a', rfl⟩
        · rw [eR, if_pos rfl]
        · have eR : xb_R h (zwV ws) k j = 1000 + 64 * k + j := eR
          rw [eR, if_neg (by omega)]
          unfold xb_b
          rw [if_neg (by omega), show (1000 + 64 * k + j - 1000) / 64 = k by omega, show (1000 + 64 * k + j - 1000) % 64 = j by omega, hV]
    | t + 4, q4 =>
      obtain ⟨q, rfl⟩ := xb_sl4 q4
      obtain ⟨x, rfl, -⟩ := q3
      show _ = some (Value.int (xb_I (zwV ws) (zwA ws) k j))
      unfold xb_I
      rw [hV]
  | inr q =>
    obtain ⟨t, n⟩ := q
    obtain ⟨r, e, cA, g1, g2, g3, g4, g5⟩ := xb_ar hw hk hT hck
    refine ⟨e, by rw [bk]; exact g2, cA, g3, ?_⟩
    have hI : ∀ F : Nat → Int32, e = .inl (cA, n, .inl F) → ∀ i, F i = xb_I (zwV ws) (zwA ws) k i := by
      intro F he i
      subst he
      unfold xb_I
      have : zwV ws k i = .null := by
        unfold zwV
        rw [g2]
      rw [this, zwA_of g2]
    match t, g4, g5 with
    | 0, ⟨F, he, _⟩, _ => exact ⟨F, he, fun i _ => hI F he i⟩
    | 1, ⟨F, he, _⟩, _ =>
      refine ⟨F, he, fun i _ => ?_⟩
      subst he
      show _ = xb_J ws k i
      unfold xb_J
      rw [g2]
    | 2, ⟨F, he, _⟩, _ => exact ⟨F, he, fun i _ => hI F he i⟩
    | 3, ⟨F, he, _⟩, _ => exact ⟨F, he, fun i _ => hI F he i⟩
    | t + 4, ⟨F, he, h2⟩, g5 =>
      refine ⟨F, he, fun i hi => ?_⟩
      obtain ⟨a, ha, hg⟩ := h2 i hi
      rw [g5 (by omega) i hi] at ha
      cases ha
      obtain ⟨q, hq, hv⟩ := hg
      obtain ⟨e', he'⟩ := zad_some hq
      rw [xb_b_lt (xq_sr_lt k i), zwB_of he']
      cases hF : F i with
      | none => rw [hF] at hv; cases hv
      | some x => rw [hF] at hv; cases hv; rfl
/-- an exact end, seen by values -/
def xb_ag (I' : Nat → Nat → Int32) (f' : Nat → Nat → Value) (g' : Nat → Nat → Int32) : Prop :=
  (∀ k ci ts, zrget xqT k = some (.inl (ci, ts)) → ∀ j t, ts[j]? = some t → t = 0 ∨ t = 4 → f' k j = .int (I' k j)) ∧ (∀ k t n, zrget xqT k = some (.inr (t, n)) → t = 0 ∨ t = 2 ∨ t = 3 → ∀ i, i < n → g' k i = I' k i)
theorem xb_end {b2 : Nat → Nat} {S : xq_S} {ws2 : va_W} {H : Heap} (hw : zwr vwCl tys o h ws) (h126 : h.1 = 126) (hc : zfor (xb_ck h) 126 = true) (hP : va_P D vwCl ws H) (hr : xq_r b2 vwCl tys S ws2) (hP2 : va_P D vwCl ws2 H) (hb : ∀ k, k < 126 → b2 k = zwB ws k) : xb_ag S.1 (zwV ws) (zwA ws) := by
  refine ⟨fun k ci ts hT j t hj ht => ?_, fun k t n hT ht i hi => ?_⟩
  · have hk := xqT_lt hT
    have hck := zfor_ok hc k hk
    rw [← h126] at hk
    obtain ⟨gs, vs, g1, g2, g3, g4, g5, g6, g7⟩ := xb_ob hw hk hT hck
    obtain ⟨e, q1, vs2, rfl, q2, q3⟩ := hr k _ hT
    rw [hb k (by omega)] at q1
    obtain ⟨r1, c1, cell, d1, -, -, d4⟩ := hP k _ g2
    obtain ⟨r2, c2, cell2, k1, -, -, k4⟩ := hP2 k _ q1
    have e1 : cell = cell2 := by
      have := d1.symm.trans k1
      exact Option.some.inj this
    subst e1
    have e2 : r1 = r2 := by
      have := c1.symm.trans c2
      exact Option.some.inj this
    subst e2
    have hjl : j < ts.length := (List.getElem?_eq_some_iff.mp hj).1
    have hN : j < r1.2.2 := by
      have h1 : xb_N vwCl ci = r1.2.2 := by
        unfold xb_N
        have c1 : vwCl[ci]? = some r1 := c1
        rw [c1]
      omega
    have e3 := (d4 j hN).symm.trans (k4 j hN)
    have e3 := Option.some.inj e3
    have h1 : vs2[j]? = some (xq_sl b2 t S k j) := q3 j t hj
    have h2 : vp_V vs2 j = xq_sl b2 t S k j := by
      unfold vp_V
      rw [List.getD_eq_getElem?_getD, h1]
      rfl
    obtain ⟨a, v, q5, q6, -, -⟩ := g7 j t hj
    have h3 : vp_V vs j = v := by
      unfold vp_V
      rw [List.getD_eq_getElem?_getD, q6]
      rfl
    rw [zwV_of g2 q6, ← h3]
    have e3 : vp_V vs j = vp_V vs2 j := e3
    rw [e3, h2]
    rcases ht with rfl | rfl <;> rfl
  · have hk := xqT_lt hT
    have hck := zfor_ok hc k hk
    rw [← h126] at hk
    obtain ⟨r, e, cA, g1, g2, g3, g4, -⟩ := xb_ar hw hk hT hck
    obtain ⟨e2, q1, cA2, hA2, q2⟩ := hr k _ hT
    rw [hb k (by omega)] at q1
    have key : ∀ (F F2 : Nat → Int32), e = .inl (cA, n, .inl F) → e2 = .inl (cA2, n, .inl F2) → (∀ i, i < n → F2 i = S.1 k i) → zwA ws k i = S.1 k i := by
      intro F F2 he he2 h2
      subst he
      subst he2
      have d1 : H[zwB ws k]? = some (vp_cell cA (n, .inl F)) := hP k _ g2
      have d2 : H[zwB ws k]? = some (vp_cell cA2 (n, .inl F2)) := hP2 k _ q1
      have e5 : vp_cell cA (n, .inl F) = vp_cell cA2 (n, .inl F2) := Option.some.inj (d1.symm.trans d2)
      have r1 : (vp_cell cA (n, .inl F)).slots[i]? = some (.int (F i)) := arrV_read _ _ hi
      have r2 : (vp_cell cA2 (n, .inl F2)).slots[i]? = some (.int (F2 i)) := arrV_read _ _ hi
      rw [e5, r2] at r1
      have e6 : F2 i = F i := by
        have := Option.some.inj r1
        exact Value.int.inj this
      rw [zwA_of g2, ← e6]
      exact h2 i hi
    rcases ht with rfl | rfl | rfl
    · obtain ⟨F, he, -⟩ := g4
      obtain ⟨F2, he2, h2⟩ := q2
      exact key F F2 he he2 h2
    · obtain ⟨F, he, -⟩ := g4
      obtain ⟨F2, he2, h2⟩ := q2
      exact key F F2 he he2 h2
    · obtain ⟨F, he, -⟩ := g4
      obtain ⟨F2, he2, h2⟩ := q2
      exact key F F2 he he2 h2
/-- a call whose walk and whose exact answer are known -/
theorem xb_Ct {fr lo mk : Nat} {as : List zAV} {r : Option zAV} {mr : zM} {xp : List (Option (Nat × xq_K))} {prog : List zM} {vs vs0 : List Value} {d mi : Nat} {Po : Option Value → (Nat → Nat → Int32) → Prop} (hX : zXok (zXX o z) z) (hxp : ∀ b2 : Nat → Nat, xq_Pok l D vwCl tys z (zXX o z) zTs prog b2 xp) (hm : zget prog mi = some mr) (hM : zMet l D vwCl tys o z (zXX o z) zTs mr fr lo h as (zkin r (h.1, h.2.1, mk))) (hvs : ∀ ws : va_W, zwr vwCl tys o h ws → zwB ws = b → zr2 (zgH o (zad ws)) as vs) (h126 : h.1 = 126) (hc : zfor (xb_ck h) 126 = true) (hfr : d + 12 ≤ fr) (hlo : 2000 + 60 * d ≤ lo) (hv0 : ∀ b2 : Nat → Nat, (∀ n, n < 1000 → b2 n = b n) → vs0.map (xq_v b2) = vs)
    (hx : ∀ J : Nat → Nat → Int64, ∃ r1 I' J' R', xq_D xp d mi vs0 (xb_I f g, J, xb_R h f) = some (r1, I', J', R') ∧ Po r1 I') : zCt l D tys o z h b mr fr lo vs f g (fun v f' g' => (∃ r1 I' b2, Po r1 I' ∧ v = r1.map (xq_v b2) ∧ xb_ag I' f' g') ∧ (∃ ad : Nat → Option Nat, zgo o ad r v) ∧ (∀ k j, zbit mk k j = false → f' k j = f k j) ∧ ∀ k, zbit mk k 0 = false → g' k = g k) := by
  intro ws w0 w1 w2 w3 p e a1 a2 a3 s m args below b1 b2 b3 b4
  obtain ⟨n, oc, d1, d2, d3, ⟨⟨⟨v, ws', f1, f2, f3, f4, f5, f6⟩, g1⟩, g2⟩⟩ := zCt_met hM hvs ws w0 w1 w2 w3 p e a1 a2 a3 s m args below b1 b2 b3 b4
  subst w1
  subst w2
  subst w3
  obtain ⟨r1, I', J', R', x1, x2⟩ := hx (xb_J ws)
  have hrd := xb_rd w0 h126 hc
  have hMt := xq_D_ok (b := xb_b (zwV ws) (zwB ws)) hX (hxp _) d mi mr vs0 _ _ hm x1 fr lo hfr hlo ws hrd
  obtain ⟨n', oc', k1, k2, k3, ⟨⟨⟨y1, ws2, y2, y3, y4⟩, y5⟩, -⟩⟩ := hMt p e a1 a2 a3 s m args below b1 b2 (by
    obtain ⟨c1, c2, c3, c4, c5, c6, c7⟩ := b3
    refine ⟨?_, hrd, c3, c4, c5, c6, c7⟩
    rw [hv0 _ (fun n hn => xb_b_lt hn)]
    exact c1) b4
  obtain ⟨e1, e2⟩ := the_end_unique (f := fun k => stepsAlone p.tables e k s) d1 d3 k1 k3
  subst e1
  subst e2
  rw [y1] at f1
  cases f1
  refine ⟨n, _, d1, d2, d3, ⟨⟨_, ws', y1, f2, f3, f4, f5, ⟨r1, I', _, x2, rfl, ?_⟩, f6⟩, g1⟩, g2⟩
  exact xb_end f2 h126 hc f3 y2 y3 (fun k hk => by rw [xb_b_lt (by omega), f5])
end XQB
