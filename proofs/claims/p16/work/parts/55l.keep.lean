/-! VALUES KEPT: from pure rounds to rounds of the law -/
theorem xz_ckI : zfor (xb_ck zyI) 126 = true := by decide +kernel
theorem xz_room {s : State} {pl : Platform} {fr lo fr2 lo2 mc ms : Nat} (h1 : fr ≤ fr2) (h2 : lo ≤ lo2) (h : s.hasRoom pl { frames := fr2, cells := mc, slots := ms, locals := lo2 } = true) : s.hasRoom pl { frames := fr, cells := mc, slots := ms, locals := lo } = true := by
  unfold State.hasRoom at h ⊢
  simp only [Bool.and_eq_true, decide_eq_true_eq] at h ⊢
  obtain ⟨⟨⟨⟨h3, h4, h5, h6, h7, h8⟩, h9⟩, h10⟩, h11⟩ := h
  exact ⟨⟨⟨⟨by omega, by omega, by omega, by omega, by omega, h8⟩, h9⟩, h10⟩, h11⟩
theorem xz_wide {l : Launch} {D : va_G} {cl : List vw_C} {tys : List (ClassId × FieldType)} {o : zO} {z : Nat} {X : State → Heap → Prop} {Ts : List Cond} {mr : zM} {fr lo fr2 lo2 : Nat} {h : zH} {as : List zAV} {k : zRt} (hM : zMet l D cl tys o z X Ts mr fr lo h as k) (h1 : fr ≤ fr2) (h2 : lo ≤ lo2) : zMet l D cl tys o z X Ts mr fr2 lo2 h as k := by
  intro ws vs hvs p e a1 a2 a3 s m args below b1 b2 b3 b4
  refine hM ws vs hvs p e a1 a2 a3 s m args below b1 ?_ b3 b4
  rw [Spec.appliesLoose_iff b1] at b2 ⊢
  obtain ⟨c1, c2, c3, c4, c5, c6, c7, c8⟩ := b2
  exact ⟨c1, c2, c3, c4, c5, c6, xz_room h1 h2 c7, c8⟩
noncomputable def xz_I (ws : va_W) : Nat → Nat → Int32 := xb_I (zwV ws) (zwA ws)
/-- bounds of what lies there -/
noncomputable def xz_b (k j : Nat) : Option zI := match Nat.ble (k + 1) 126 with
  | true => (match zrget zyI.2.1 k with
    | some (.inr q) => (match zget q.2 j with
      | some (.inl a) => some a.1
      | _ => none)
    | some (.inl (t, n, r)) => (match (Nat.beq t 0 || (Nat.beq t 2 || Nat.beq t 3)) && Nat.ble (j + 1) n with
      | true => (match zaget r j with
        | some (.inl a) => some a.1
        | _ => none)
      | false => none)
    | none => none)
  | false => none
def xbd (I : Nat → Nat → Int32) : Prop := ∀ k j q, xz_b k j = some q → zmi q (I k j)
section XZA
variable {l : Launch} {D : va_G} {tys : List (ClassId × FieldType)} {o : zO} {z : Nat} {b : Nat → Nat} {f : Nat → Nat → Value} {g : Nat → Nat → Int32} {ws : va_W} {H0 H : Heap} {locs : List Loc}
set_option maxRecDepth 100000 in
theorem xz_Rok : xz_R (xb_R zyI f) := ⟨rfl, rfl, rfl, rfl⟩
theorem xz_e {I' : Nat → Nat → Int32} (hv : zV zyI D tys o z H0 b f g ws H locs) (h : xb_ag I' f g) : xz_eq I' (xb_I f g) := by
  obtain ⟨hw, hP, hD, hS, rfl, rfl, rfl⟩ := hv
  intro k j hx
  unfold xv at hx
  split at hx
  · rename_i q hT
    obtain ⟨ci, ts⟩ := q
    split at hx
    · rename_i t ht
      rw [zget_eq] at ht
      rw [Bool.or_eq_true] at hx
      have h1 := h.1 k ci ts hT j t ht (hx.elim (fun q => Or.inl (Nat.eq_of_beq_eq_true q)) (fun q => Or.inr (Nat.eq_of_beq_eq_true q)))
      unfold xb_I
      rw [h1]
    · cases hx
  · rename_i q hT
    obtain ⟨t, n⟩ := q
    simp only [Bool.and_eq_true, Bool.or_eq_true] at hx
    obtain ⟨hx1, hx2⟩ := hx
    have ht : t = 0 ∨ t = 2 ∨ t = 3 := by
      rcases hx1 with q | q | q
      · exact Or.inl (Nat.eq_of_beq_eq_true q)
      · exact Or.inr (Or.inl (Nat.eq_of_beq_eq_true q))
      · exact Or.inr (Or.inr (Nat.eq_of_beq_eq_true q))
    have hj := Nat.le_of_ble_eq_true hx2
    have hk := xqT_lt hT
    obtain ⟨r, e, cA, g1, g2, g3, g4, -⟩ := xb_ar hw (show k < zyI.1 from hk) hT (zfor_ok xz_ckI k hk)
    have hn : zwV ws k j = .null := by
      rcases ht with rfl | rfl | rfl
      · obtain ⟨F, rfl, -⟩ := g4
        unfold zwV
        rw [g2]
      · obtain ⟨F, rfl, -⟩ := g4
        unfold zwV
        rw [g2]
      · obtain ⟨F, rfl, -⟩ := g4
        unfold zwV
        rw [g2]
    unfold xb_I
    rw [hn]
    exact h.2 k t n hT ht j hj
  · cases hx
theorem xz_bd (hv : zV zyI D tys o z H0 b f g ws H locs) : xbd (xb_I f g) := by
  obtain ⟨hw, hP, hD, hS, rfl, rfl, rfl⟩ := hv
  intro k j q hq
  unfold xz_b at hq
  split at hq
  · rename_i hk9
    have hk : k < zyI.1 := Nat.le_of_ble_eq_true hk9
    split at hq
    · rename_i q9 hc
      obtain ⟨ci, gs⟩ := q9
      split at hq
      · rename_i a ha
        rw [zget_eq] at ha
        cases hq
        obtain ⟨c, a1, e, h1, h2, h3⟩ := hw.2 k hk
        rw [hc] at h1
        cases h1
        obtain ⟨vs, rfl, hvs⟩ := h3
        obtain ⟨v, w1, w2⟩ := zr2_get j hvs ha
        obtain ⟨x, rfl, hx⟩ := w2
        unfold xb_I
        rw [zwV_of h2 w1]
        exact hx
      · cases hq
    · rename_i t n r hc
      split at hq
      · rename_i hb
        simp only [Bool.and_eq_true, Bool.or_eq_true] at hb
        obtain ⟨hx1, hx2⟩ := hb
        have hj := Nat.le_of_ble_eq_true hx2
        split at hq
        · rename_i a ha
          cases hq
          obtain ⟨c, a1, e, h1, h2, h3⟩ := hw.2 k hk
          rw [hc] at h1
          cases h1
          obtain ⟨cA, hA, hz⟩ := h3
          have key : ∀ F : Nat → Int32, e = .inl (cA, n, .inl F) → (∀ i, i < n → ∃ a, zaget r i = some a ∧ zgH o (zad ws) a (.int (F i))) → zmi a.1 (xb_I (zwV ws) (zwA ws) k j) := by
            intro F he hF
            subst he
            obtain ⟨a9, i1, i2⟩ := hF j hj
            rw [ha] at i1
            cases i1
            obtain ⟨x, hx, hm⟩ := i2
            cases hx
            have hn : zwV ws k j = .null := by
              unfold zwV
              rw [h2]
            unfold xb_I
            rw [hn, zwA_of h2]
            exact hm
          rcases hx1 with q | q | q
          · have := Nat.eq_of_beq_eq_true q
            subst this
            obtain ⟨F, he, hF⟩ := hz
            exact key F he hF
          · have := Nat.eq_of_beq_eq_true q
            subst this
            obtain ⟨F, he, hF⟩ := hz
            exact key F he hF
          · have := Nat.eq_of_beq_eq_true q
            subst this
            obtain ⟨F, he, hF⟩ := hz
            exact key F he hF
        · cases hq
      · cases hq
    · cases hq
  · cases hq
end XZA
/-! calls that are known, by exact functions -/
noncomputable def zxK (fr lo mi : Nat) (as : List zAV) (r : Option zAV) (mk : Nat) : Bool := match zovW zyds fr lo mi as zyI with
  | some qs => zall (fun q : Option zAV × zH => zkin r (zyI.1, zyI.2.1, mk) q.1 q.2) qs
  | none => false
section XZB
variable {l : Launch} {D : va_G} {tys : List (ClassId × FieldType)} {o : zO} {z : Nat} {b : Nat → Nat} {f : Nat → Nat → Value} {g : Nat → Nat → Int32}
theorem xz_met (E : zEnv tys) {fr lo mi mk : Nat} {m2 : zM} {as : List zAV} {r : Option zAV} (hm : zget zprog2 mi = some m2) (h : zxK fr lo mi as r mk = true) : zMet l D vwCl tys o z (zXX o z) zTs m2 fr lo zyI as (zkin r (zyI.1, zyI.2.1, mk)) := by
  unfold zxK at h
  split at h
  · rename_i qs hq
    obtain ⟨f', lo', h1, h2, h3⟩ := zovW_ok (l := l) (D := D) (o := o) (z := z) (zyds_ok E (zyF E) (zyS E)) fr lo mi m2 as zyI qs hm hq
    exact xz_wide (h3 _ h) (by omega) (by omega)
  · cases h
def xz_as (k n : Nat) : List zAV := .inr (.inr (.inl k)) :: List.replicate n (.inl (ztopI, none))
theorem xz_vs {ws : va_W} {k : Nat} (hw : zwr vwCl tys o zyI ws) (hb : zwB ws = b) (hk : k < 126) : ∀ xs : List Int32, zr2 (zgH o (zad ws)) (xz_as k xs.length) (.ref (b k) :: xs.map Value.int) := by
  intro xs
  refine ⟨⟨b k, ?_, rfl⟩, ?_⟩
  · obtain ⟨c, a, e, h1, h2, h3⟩ := hw.2 k hk
    rw [zad_of h2, ← hb, zwB_of h2]
  · induction xs with
    | nil => exact trivial
    | cons x t ih => exact ⟨⟨x, rfl, z32 x⟩, ih⟩
theorem xz_ct (E : zEnv tys) {k mi mk d : Nat} {xs : List Int32} {m1 m2 : zM} {r : Option zAV} {Po : Int32 → (Nat → Nat → Int32) → Prop} (hm1 : zget zprog mi = some m1) (hm2 : zget zprog2 mi = some m2) (hs : zMet l D vwCl tys o z (zXX o z) zTs m2 300 60000 zyI (xz_as k xs.length) (zkin r (zyI.1, zyI.2.1, mk)) → zMet l D vwCl tys o z (zXX o z) zTs m1 300 60000 zyI (xz_as k xs.length) (zkin r (zyI.1, zyI.2.1, mk))) (hk : zxK 300 60000 mi (xz_as k xs.length) r mk = true) (hk9 : k < 126) (hd : d ≤ 200) (hx : ∀ J : Nat → Nat → Int64, ∃ a I' J' R', xq_D xqP d mi (.ref k :: xs.map Value.int) (xb_I f g, J, xb_R zyI f) = some (some (.int a), I', J', R') ∧ Po a I') : zCt l D tys o z zyI b m1 300 60000 (.ref (b k) :: xs.map Value.int) f g (fun v f' g' => (∃ a I', v = some (.int a) ∧ Po a I' ∧ xb_ag I' f' g') ∧ (∀ k j, zbit mk k j = false → f' k j = f k j) ∧ ∀ k, zbit mk k 0 = false → g' k = g k) := by
  refine zCt_mono (xb_Ct (d := d) (vs0 := .ref k :: xs.map Value.int) (Po := fun r1 I' => ∃ a, r1 = some (.int a) ∧ Po a I') zXX_ok (fun b2 => xqP_ok E) hm1 (hs (xz_met E hm2 hk)) (fun ws hw hb => xz_vs hw hb hk9 xs) rfl xz_ckI (by omega) (by omega) ?_ ?_) (fun v f' g' h => ?_)
  · intro b2 hb2
    show Value.ref (b2 k) :: (xs.map Value.int).map (xq_v b2) = _
    rw [hb2 k (by omega), List.map_map]
    rfl
  · intro J
    obtain ⟨a, I', J', R', h1, h2⟩ := hx J
    exact ⟨_, I', J', R', h1, a, rfl, h2⟩
  · obtain ⟨⟨r1, I', b2, ⟨a, rfl, h2⟩, rfl, h3⟩, -, h4, h5⟩ := h
    exact ⟨⟨a, I', rfl, h2, h3⟩, h4, h5⟩
end XZB
