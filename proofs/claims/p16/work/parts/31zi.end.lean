/-! THE LAW FROM ITS ENTRY ON -/
noncomputable def zc0 : zK := ([(0, .inr (.inr (.inr (.inl true))))], [], (0, zrmk 127 (.inr (99, [])), 0), 0, 0)
noncomputable def zcut0P (Js : List zJ) (hI : zH) : zCut := fun pc c => match Nat.beq pc 23 with
  | true => some (match zlook c.1 4 with
    | some (.inl q) => (match zle 0 q.1.1 && zle q.1.2 0 with
      | true => (match zall (fun q : zJ => q.2.1 c) Js with
        | true => zinc c (zcL zmall (.ofNat 2560) hI 200 12000)
        | false => false)
      | false => false)
    | _ => false)
  | false => none
noncomputable def zpref (Js : List zJ) (hI : zH) : Bool := zrunw zprog2 (zovW []) 100000 (zcut0P Js hI) 2048 84000 kLawP (fun _ _ => false) 0 zc0
theorem zSat0 {D : va_G} {tys : List (ClassId × FieldType)} {o : zO} {z : Nat} {H0 : Heap} {ls : Array Slot} (hl : lv_has ls 8 [(0, .ref o.1)]) : zSat D vwCl tys o z [] 8 H0 zc0 ls [] H0 [] [] := by
  refine ⟨⟨_, hl, ⟨rfl, rfl⟩, trivial⟩, trivial, ⟨rfl, fun k hk => absurd hk (Nat.not_lt_zero k)⟩, fun k q h => by simp at h, ⟨fun i j p q h => by simp at h, fun k q h => by simp at h⟩, va_S.rf, fun k a e h => by simp at h⟩
set_option maxHeartbeats 4000000 in
theorem zwhole {p : Program} {e : Env} {s : State} {m : MethodId} {below : List Frame} {meth : Method} {c : Code} (l : Launch) (hflags : l.flags = flags0) {b L : Nat} {xs : Nat → Int32} (hL : L ≤ 2560) (C0 : lw_At p s m meth c b L xs) {Js : List zJ} (hJ : ∀ {D : va_G} {tys : List (ClassId × FieldType)} {z : Nat}, ∀ q ∈ Js, zJok D tys z q) (hJ0 : ∀ q ∈ Js, q.1 0 = false) {hI : zH} {js : List zI} {B1 B2 : zI → List zI} (hj : zcov64 0 js = true) (h1 : ∀ j ∈ js, zcov (-2147483648) (B1 j) = true) (h2 : ∀ j ∈ js, zcov (-2147483648) (B2 j) = true) (hSp : ∀ {D : va_G} {tys : List (ClassId × FieldType)} {o : zO} {z : Nat}, zEnv tys → zCx p room_1 s m #[Value.ref b] meth c D vwCl tys z (zXX o z) zTs RL cL_law 8 meth.name → va_X o.1 L xs s s.heap → o.1 < s.heap.size → ¬ zA z o.1 → l.stackTraces = false → zTh z s s.heap → ∀ j ∈ js, ∀ b1 ∈ B1 j, ∀ b2 ∈ B2 j, zSpec p l e s m b below meth c D tys o z L xs hI Js j b1 b2) (hpre : zpref Js hI = true) : W p l e room_1 s m #[Value.ref b] below meth c s.heap [] 0 0 (lw_Z below #[Value.ref b] s) (entryFrame m ([Value.ref b] : List Value).toArray 8) := by
  obtain ⟨hx, hb, hr, hml, hown, hts, hX, hbl, hlocks, hgv⟩ := id C0
  obtain ⟨D, tys, adr, hK, E, hXX⟩ := zstart hts hgv
  have hts' : ∀ w ∈ zTs, w.before #[Value.ref b] s = true := fun w h => hts w (List.mem_filter.mp h).1
  have hst : l.stackTraces = false := by unfold Launch.stackTraces; rw [hflags]; decide
  have hTh := zTh_start hts hgv
  have hl := lv_entry ([.ref b]) (n := 8) (Nat.le_of_ble_eq_true rfl)
  rw [lg_entry_eq]
  generalize (lg_sl ([.ref b]) ++ List.replicate (8 - (lg_sl ([.ref b])).length) Slot.unset).toArray = ls at hl ⊢
  have hl : lv_has ls 8 [(0, .ref b)] := hl
  obtain ⟨o, ho⟩ : ∃ o : zO, o = (b, adr, fun _ => 0) := ⟨_, rfl⟩
  have eb : o.1 = b := by rw [ho]
  have C : zCx p room_1 s m #[Value.ref b] meth c D vwCl tys s.heap.size (zXX o s.heap.size) zTs RL cL_law 8 meth.name := by
    rw [ho]
    exact ⟨hx, hb, hml, hown, hts', hK, rfl, hXX _, Nat.le_refl _, by decide, by decide⟩
  have hX' : va_X o.1 L xs s s.heap := by rw [eb]; exact hX
  have hbl' : o.1 < s.heap.size := by rw [eb]; exact hbl
  have hbA : ¬ zA s.heap.size o.1 := Nat.not_le.mpr hbl'
  have hz : zSat D vwCl tys (zwith o o.2.2) s.heap.size [] 8 s.heap zc0 ls [] s.heap [] [] := zSat0 (by show lv_has ls 8 [(0, .ref o.1)]; rw [eb]; exact hl)
  have loop := zloop (p := p) (e := e) (s := s) (m := m) (below := below) (meth := meth) (c0 := c) (b := b) (D := D) (tys := tys) (o := o) (z := s.heap.size) (hI := hI) C hX' hbl' hbA hL ⟨rfl, hr, hlocks⟩ hJ hJ0 hj h1 h2 (hSp E C hX' hbl' hbA hst hTh)
  unfold zpref at hpre
  refine zrunw_ok (o := o) (zovW_ok (fun d h => absurd h List.not_mem_nil)) zXX_ok (zprog2_ok E) 100000 p e room_1 s m #[Value.ref b] below meth c (lw_Z below #[Value.ref b] s) [] 8 cL_law (some .boolean) kLawP (okLawP E C) 2048 84000 (by decide) (by decide) _ zRetF (zcut0P Js hI) ?_ 0 zc0 hpre o.2.2 (fun _ _ => rfl) ls [] s.heap [] [] hz
  intro pc c' hc
  unfold zcut0P at hc
  split at hc
  · rename_i hb9
    have hb9 := Nat.eq_of_beq_eq_true hb9
    subst hb9
    have hc := Option.some.inj hc
    split at hc
    · rename_i q hq
      split at hc
      · rename_i hk
        split at hc
        rotate_left
        · cases hc
        rename_i hrl
        simp only [Bool.and_eq_true, zle_iff] at hk
        intro f hf ls' vst H locs ws S0
        obtain ⟨S2, w1, w2⟩ := zinc_ok hc S0
        have ev := zr2_nil S2.2.1
        subst ev
        obtain ⟨v, hv1, hv2⟩ := zlv S0.1 hq
        obtain ⟨x, rfl, ⟨hx1, hx2⟩, -⟩ := zint hv2
        have e0 : zgv ls' 4 = Int32.ofNat 0 := by
          rw [zgv_lo (by omega) hv1]
          apply Int32.toInt_inj.mp
          rw [show (Int32.ofNat 0).toInt = 0 by decide]
          omega
        have w1 : c'.2.2.2.1 ≤ 200 := w1
        have w2 : c'.2.2.2.2 ≤ 12000 := w2
        obtain ⟨K0, hK0⟩ : ∃ K : Nat, K = 200 := ⟨_, rfl⟩
        obtain ⟨T0, hT0⟩ : ∃ K : Nat, K = 12000 := ⟨_, rfl⟩
        obtain ⟨N0, hN0⟩ : ∃ K : Nat, K = 512 := ⟨_, rfl⟩
        exact W.widen (k := 0 + K0) (n := 0 + T0) (by omega) (by omega) (loop N0 0 K0 T0 (zgv ls') e0 (by omega) (by omega) (by omega) (by omega) ls' H locs ws ⟨S2.1, S2.2.1, S2.2.2.1, S2.2.2.2.1, S2.2.2.2.2.1, S2.2.2.2.2.2.1, fun k a e he => by simp at he⟩ (fun q hq => (hJ q hq).2 _ _ _ _ _ _ _ _ _ S0 (zall_mem hrl q hq)))
      · cases hc
    · cases hc
  · cases hc
