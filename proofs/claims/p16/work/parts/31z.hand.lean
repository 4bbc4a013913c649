/-! WALKS BY HAND: an instruction's walk with 'what holds' in place of a run -/
noncomputable def zGG (P : Nat → zK → Prop) : Nat → zK → Bool := fun pc c => @decide (P pc c) (Classical.propDecidable _)
theorem zGG_i {P : Nat → zK → Prop} {pc : Nat} {c : zK} (h : P pc c) : zGG P pc c = true := @decide_eq_true _ (Classical.propDecidable _) h
theorem zGG_o {P : Nat → zK → Prop} {pc : Nat} {c : zK} (h : zGG P pc c = true) : P pc c := @of_decide_eq_true _ (Classical.propDecidable _) h
noncomputable def zCC (P : Nat → List zAV → zH → zRt → Prop) : zCall := fun mi as h k => @decide (P mi as h k) (Classical.propDecidable _)
theorem zCC_i {P : Nat → List zAV → zH → zRt → Prop} {mi : Nat} {as : List zAV} {h : zH} {k : zRt} (q : P mi as h k) : zCC P mi as h k = true := @decide_eq_true _ (Classical.propDecidable _) q
theorem zCC_o {P : Nat → List zAV → zH → zRt → Prop} {mi : Nat} {as : List zAV} {h : zH} {k : zRt} (q : zCC P mi as h k = true) : P mi as h k := @of_decide_eq_true _ (Classical.propDecidable _) q
def zcallP (l : Launch) (D : va_G) (cl : List vw_C) (tys : List (ClassId × FieldType)) (o : zO) (z : Nat) (X : State → Heap → Prop) (Ts : List Cond) (prog : List zM) (R : Room) : Nat → List zAV → zH → zRt → Prop := fun mi av h k => ∀ mr, zget prog mi = some mr → ∃ fr lo, fr + 1 ≤ R.frames ∧ 8 + (mr.2.2.1 + 11) + lo ≤ R.locals ∧ zMet l D cl tys o z X Ts mr fr lo h av k
section ZHAND
variable {p : Program} {l : Launch} {e : Env} {R : Room} {s : State} {m : MethodId} {args : Array Value} {below : List Frame} {meth : Method} {c0 : Code} {Q : State → Prop} {D : va_G} {cl : List vw_C} {tys : List (ClassId × FieldType)} {o : zO} {z : Nat} {X : State → Heap → Prop} {Ts : List Cond} {prog : List zM} {ws0 : va_W} {nL : Nat} {cc : ByteArray} {ret : Option FieldType}
theorem zCC_ok : zCallOk l D cl tys o z X Ts prog R (zCC (zcallP l D cl tys o z X Ts prog R)) := fun _ mr _ _ _ hm hc => zCC_o hc mr hm
theorem zst {pc : Nat} {sem : zSem} {rt : zRt} {c : zK} (hop : zOp p l e R s m args below meth c0 Q D cl tys o z X Ts prog ws0 nL cc ret pc sem) (hrt : zRetOk p l e R s m args below meth c0 Q D cl tys o z ws0 cc ret rt) (hs : sem (zCC (zcallP l D cl tys o z X Ts prog R)) rt (zGG (zGo p l e R s m args below meth c0 Q D cl tys o z ws0 nL)) c = true) : zGo p l e R s m args below meth c0 Q D cl tys o z ws0 nL pc c := hop _ rt _ c zCC_ok hrt (fun _ _ h => zGG_o h) hs
/-- a method by what holds from its first instruction on -/
theorem zMet_of {mr : zM} {f lo : Nat} {k : zRt} (hy : plainName mr.1.cls = true) {as : List zAV} {h : zH} (k0 : 1 ≤ f) (k1 : 200 ≤ lo) (k2 : zcats as ≤ mr.2.2.1) (k3 : zcats as ≤ 700) (H : ∀ (p : Program) (e : Env) (s : State) (m : MethodId) (args : Array Value) (below : List Frame) (meth : Method) (c0 : Code) (Q : State → Prop) (ws0 : va_W), zCx p { frames := f, cells := mr.2.2.2.2.1, slots := mr.2.2.2.2.2.1, locals := lo } s m args meth c0 D cl tys z X Ts mr.1.cls mr.2.1 mr.2.2.1 mr.1.name → zRetOk p l e { frames := f, cells := mr.2.2.2.2.1, slots := mr.2.2.2.2.2.1, locals := lo } s m args below meth c0 Q D cl tys o z ws0 mr.2.1 mr.2.2.2.1 k → zGo p l e { frames := f, cells := mr.2.2.2.2.1, slots := mr.2.2.2.2.2.1, locals := lo } s m args below meth c0 Q D cl tys o z ws0 mr.2.2.1 0 (zargs 0 as, [], (h.1, h.2.1, 0), 0, 0)) : zMet l D cl tys o z X Ts mr f lo h as k := by
  intro ws vs hvs
  refine Met.ofW (cc := mr.2.1) (maxL := mr.2.2.1) (ret := mr.2.2.2.1) hy rfl ?_
  intro p' e' s' m' args' below' meth' c' s₁ B hml hv
  obtain ⟨rfl, v1, v2, v3, v4, v5, v6⟩ := hv
  have hts := atoms_spec B.pre
  have CX' : zCx p' { frames := f, cells := mr.2.2.2.2.1, slots := mr.2.2.2.2.2.1, locals := lo } s' m' vs.toArray meth' c' D cl tys z X Ts mr.1.cls mr.2.1 mr.2.2.1 mr.1.name := ⟨B.exec, B.bytes, hml, findClass_of_methodNamed B.named, fun w hw => hts w (List.mem_cons_of_mem _ hw), v4, (name_of_methodNamed B.named B.method).1, v5, v6, k0, k1⟩
  have hl := lv_entry vs (n := mr.2.2.1) (by rw [zsl_len hvs]; exact k2)
  rw [lg_entry_eq]
  exact H p' e' s' m' vs.toArray below' meth' c' _ ws CX' (zret_MQ B.exec B.bytes B.notSynchronized B.returns rfl rfl) (zent o.2.2 vs) (zent_ag _ _) _ [] s'.heap [] ws ⟨⟨_, hl, zargs_ok (g := o.2.2) hvs (by omega) _ (fun n hn => zent_F _ _ (by omega))⟩, trivial, ⟨v1.1, v1.2⟩, v2, v3, va_S.rf, zcg_rf⟩
/-- two longs between bounds: each pair of them -/
theorem zMet_ll {mr : zM} {f lo : Nat} {h : zH} {k : zRt} {i1 i2 : zI} (H : ∀ a b : Int, zmem i1 a → zmem i2 b → zmem (-9223372036854775808, 9223372036854775807) a → zmem (-9223372036854775808, 9223372036854775807) b → zMet l D cl tys o z X Ts mr f lo h [.inr (.inl (a, a)), .inr (.inl (b, b))] k) : zMet l D cl tys o z X Ts mr f lo h [.inr (.inl i1), .inr (.inl i2)] k := by
  intro ws vs hvs
  obtain ⟨v1, t1, rfl, h1, h2⟩ := zr2_cons hvs
  obtain ⟨v2, t2, rfl, h3, h4⟩ := zr2_cons h2
  have e4 := zr2_nil h4
  subst e4
  obtain ⟨x, rfl, hx⟩ := h1
  obtain ⟨y, rfl, hy⟩ := h3
  have rx := z64 x
  have ry := z64 y
  exact H x.toInt y.toInt hx hy ⟨rx.1, by have := rx.2; show x.toInt ≤ 9223372036854775807; omega⟩ ⟨ry.1, by have := ry.2; show y.toInt ≤ 9223372036854775807; omega⟩ ws _ ⟨⟨x, rfl, Int.le_refl _, Int.le_refl _⟩, ⟨y, rfl, Int.le_refl _, Int.le_refl _⟩, trivial⟩
end ZHAND
/-! COMMON: Euclid -/
def zest : Nat → Int → Int → Prop
  | 0, _, b => b = 0
  | n + 1, a, b => b = 0 ∨ zest n b (a.tmod b)
theorem zest_0 : ∀ (n : Nat) (a : Int), zest n a 0
  | 0, _ => rfl
  | _ + 1, _ => Or.inl rfl
theorem zest_ok : ∀ (n : Nat) (a b : Int), b.natAbs < 2 ^ n → zest (2 * n + 1) a b
  | 0, a, b, h => Or.inl (by omega)
  | n + 1, a, b, h => by
    by_cases hb : b = 0
    · exact Or.inl hb
    refine Or.inr ?_
    show zest (2 * n + 2) b (a.tmod b)
    by_cases hr : a.tmod b = 0
    · rw [hr]; exact zest_0 _ _
    refine Or.inr (zest_ok n _ _ ?_)
    have e1 : (a.tmod b).natAbs = a.natAbs % b.natAbs := Int.natAbs_tmod ..
    have e2 : (b.tmod (a.tmod b)).natAbs = b.natAbs % (a.tmod b).natAbs := Int.natAbs_tmod ..
    have h1 : (a.tmod b).natAbs < b.natAbs := by rw [e1]; exact Nat.mod_lt _ (by omega)
    have h2 : b.natAbs % (a.tmod b).natAbs < (a.tmod b).natAbs := Nat.mod_lt _ (by omega)
    have h3 : (a.tmod b).natAbs * (b.natAbs / (a.tmod b).natAbs) + b.natAbs % (a.tmod b).natAbs = b.natAbs := Nat.div_add_mod _ _
    have h4 : 1 ≤ b.natAbs / (a.tmod b).natAbs := Nat.div_pos (by omega) (by omega)
    have h5 : (a.tmod b).natAbs * 1 ≤ (a.tmod b).natAbs * (b.natAbs / (a.tmod b).natAbs) := Nat.mul_le_mul_left _ h4
    rw [e2]
    rw [Nat.pow_succ] at h
    omega
theorem zcmp_p {b : Int} (h : 0 < b) : zj_cmp (b, b) (.ofNat 0, .ofNat 0) = (1, 1) := by
  unfold zj_cmp
  have e0 : (Int.ofNat 0) = 0 := rfl
  have c1 : zle (0 + 1) b = true := by rw [zle_iff]; omega
  have c2 : zle (b + 1) 0 = false := by rw [zle_f]; omega
  have c3 : zle b 0 = false := by rw [zle_f]; omega
  simp only [e0, c1, c2, c3, if_true, Bool.false_eq_true, if_false]
theorem zcmp_n {b : Int} (h : b < 0) : zj_cmp (b, b) (.ofNat 0, .ofNat 0) = (-1, -1) := by
  unfold zj_cmp
  have e0 : (Int.ofNat 0) = 0 := rfl
  have c1 : zle (0 + 1) b = false := by rw [zle_f]; omega
  have c2 : zle (b + 1) 0 = true := by rw [zle_iff]; omega
  have c3 : zle 0 b = false := by rw [zle_f]; omega
  simp only [e0, c1, c2, c3, if_true, Bool.false_eq_true, if_false]
theorem zcommon {l : Launch} {D : va_G} {tys : List (ClassId × FieldType)} {o : zO} {z : Nat} (E : zEnv tys) : ∀ (n : Nat) (a b : Int), zmem (-9223372036854775808, 9223372036854775807) a → zmem (-9223372036854775808, 9223372036854775807) b → zest n a b → ∀ (h : zH) (k : zRt), (∀ v : Int, zmem (-9223372036854775808, 9223372036854775807) v → (a ≠ 0 ∨ b ≠ 0 → v ≠ 0) → k (some (.inr (.inl (v, v)))) (h.1, h.2.1, 0) = true) → zMet l D vwCl tys o z (zXX o z) zTs mX8_common (n + 1) (200 + 40 * n) h [.inr (.inl (a, a)), .inr (.inl (b, b))] k := by
  intro n
  induction n with
  | zero =>
    intro a b ha hb he h k hk
    have he : b = 0 := he
    subst he
    refine zMet_of (mr := mX8_common) (by decide) (by omega) (by omega) (show 4 ≤ 4 by decide) (show 4 ≤ 700 by decide) ?_
    intro p e s m args below meth c0 Q ws0 C hrt
    have hcode := zc2 (okX8_common (l := l) (D := D) (o := o) (z := z) E) p e _ s m args below meth c0 Q ws0 rfl rfl C
    have g17 : zGo p l e _ s m args below meth c0 Q D vwCl tys o z ws0 4 17 ([(0, .inr (.inl (a, a))), (2, .inr (.inl (0, 0)))], [.inr (.inl (a, a))], (h.1, h.2.1, 0), 0, 0) := zst (hcode 17 _ rfl) hrt (hk a ha (fun q => q.elim id (fun q => absurd rfl q)))
    have g7 : zGo p l e _ s m args below meth c0 Q D vwCl tys o z ws0 4 7 ([(0, .inr (.inl (a, a))), (2, .inr (.inl (0, 0)))], [.inr (.inl (a, a))], (h.1, h.2.1, 0), 0, 0) := zst (hcode 7 _ rfl) hrt (zGG_i g17)
    have g6 : zGo p l e _ s m args below meth c0 Q D vwCl tys o z ws0 4 6 ([(0, .inr (.inl (a, a))), (2, .inr (.inl (0, 0)))], [], (h.1, h.2.1, 0), 0, 0) := zst (hcode 6 _ rfl) hrt (zGG_i g7)
    have g3 : zGo p l e _ s m args below meth c0 Q D vwCl tys o z ws0 4 3 ([(0, .inr (.inl (a, a))), (2, .inr (.inl (0, 0)))], [.inl ((0, 0), none)], (h.1, h.2.1, 0), 0, 0) := zst (hcode 3 _ rfl) hrt (zGG_i g6)
    have g2 : zGo p l e _ s m args below meth c0 Q D vwCl tys o z ws0 4 2 ([(0, .inr (.inl (a, a))), (2, .inr (.inl (0, 0)))], [.inr (.inl (.ofNat 0, .ofNat 0)), .inr (.inl (0, 0))], (h.1, h.2.1, 0), 0, 0) := zst (hcode 2 _ rfl) hrt (zGG_i g3)
    have g1 : zGo p l e _ s m args below meth c0 Q D vwCl tys o z ws0 4 1 ([(0, .inr (.inl (a, a))), (2, .inr (.inl (0, 0)))], [.inr (.inl (0, 0))], (h.1, h.2.1, 0), 0, 0) := zst (hcode 1 _ rfl) hrt (zGG_i g2)
    exact zst (hcode 0 _ rfl) hrt (zGG_i g1)
  | succ n ih =>
    intro a b ha hb he h k hk
    refine zMet_of (mr := mX8_common) (by decide) (by omega) (by omega) (show 4 ≤ 4 by decide) (show 4 ≤ 700 by decide) ?_
    intro p e s m args below meth c0 Q ws0 C hrt
    have hcode := zc2 (okX8_common (l := l) (D := D) (o := o) (z := z) E) p e _ s m args below meth c0 Q ws0 rfl rfl C
    have g17 : ∀ v : Int, zmem (-9223372036854775808, 9223372036854775807) v → (a ≠ 0 ∨ b ≠ 0 → v ≠ 0) → zGo p l e { frames := n + 1 + 1, cells := mX8_common.2.2.2.2.1, slots := mX8_common.2.2.2.2.2.1, locals := 200 + 40 * (n + 1) } s m args below meth c0 Q D vwCl tys o z ws0 4 17 ([(0, .inr (.inl (a, a))), (2, .inr (.inl (b, b)))], [.inr (.inl (v, v))], (h.1, h.2.1, 0), 0, 0) := fun v hv hq => zst (hcode 17 _ rfl) hrt (hk v hv hq)
    by_cases hb0 : b = 0
    · subst hb0
      have g7 : zGo p l e { frames := n + 1 + 1, cells := mX8_common.2.2.2.2.1, slots := mX8_common.2.2.2.2.2.1, locals := 200 + 40 * (n + 1) } s m args below meth c0 Q D vwCl tys o z ws0 4 7 ([(0, .inr (.inl (a, a))), (2, .inr (.inl (0, 0)))], [.inr (.inl (a, a))], (h.1, h.2.1, 0), 0, 0) := zst (hcode 7 _ rfl) hrt (zGG_i (g17 a ha (fun q => q.elim id (fun q => absurd rfl q))))
      have g6 : zGo p l e { frames := n + 1 + 1, cells := mX8_common.2.2.2.2.1, slots := mX8_common.2.2.2.2.2.1, locals := 200 + 40 * (n + 1) } s m args below meth c0 Q D vwCl tys o z ws0 4 6 ([(0, .inr (.inl (a, a))), (2, .inr (.inl (0, 0)))], [], (h.1, h.2.1, 0), 0, 0) := zst (hcode 6 _ rfl) hrt (zGG_i g7)
      have g3 : zGo p l e { frames := n + 1 + 1, cells := mX8_common.2.2.2.2.1, slots := mX8_common.2.2.2.2.2.1, locals := 200 + 40 * (n + 1) } s m args below meth c0 Q D vwCl tys o z ws0 4 3 ([(0, .inr (.inl (a, a))), (2, .inr (.inl (0, 0)))], [.inl ((0, 0), none)], (h.1, h.2.1, 0), 0, 0) := zst (hcode 3 _ rfl) hrt (zGG_i g6)
      have g2 : zGo p l e { frames := n + 1 + 1, cells := mX8_common.2.2.2.2.1, slots := mX8_common.2.2.2.2.2.1, locals := 200 + 40 * (n + 1) } s m args below meth c0 Q D vwCl tys o z ws0 4 2 ([(0, .inr (.inl (a, a))), (2, .inr (.inl (0, 0)))], [.inr (.inl (.ofNat 0, .ofNat 0)), .inr (.inl (0, 0))], (h.1, h.2.1, 0), 0, 0) := zst (hcode 2 _ rfl) hrt (zGG_i g3)
      have g1 : zGo p l e { frames := n + 1 + 1, cells := mX8_common.2.2.2.2.1, slots := mX8_common.2.2.2.2.2.1, locals := 200 + 40 * (n + 1) } s m args below meth c0 Q D vwCl tys o z ws0 4 1 ([(0, .inr (.inl (a, a))), (2, .inr (.inl (0, 0)))], [.inr (.inl (0, 0))], (h.1, h.2.1, 0), 0, 0) := zst (hcode 1 _ rfl) hrt (zGG_i g2)
      exact zst (hcode 0 _ rfl) hrt (zGG_i g1)
    · have he : zest n b (a.tmod b) := he.resolve_left hb0
      have g14 : ∀ r : Int, r = a.tmod b → zmem (-9223372036854775808, 9223372036854775807) r → zGo p l e { frames := n + 1 + 1, cells := mX8_common.2.2.2.2.1, slots := mX8_common.2.2.2.2.2.1, locals := 200 + 40 * (n + 1) } s m args below meth c0 Q D vwCl tys o z ws0 4 14 ([(0, .inr (.inl (a, a))), (2, .inr (.inl (b, b)))], [.inr (.inl (r, r)), .inr (.inl (b, b))], (h.1, h.2.1, 0), 0, 0) := by
        intro r hr hrm
        refine zst (hcode 14 _ rfl) hrt (zCC_i (mi := 198) (as := [.inr (.inl (b, b)), .inr (.inl (r, r))]) (h := (h.1, h.2.1, 0)) ?_)
        intro mr hm
        have hm9 : zget zprog2 198 = some mX8_common := rfl
        rw [hm9] at hm
        cases hm
        refine ⟨n + 1, 200 + 40 * n, Nat.le_refl _, ?_, ih b r hb hrm (by rw [hr]; exact he) _ _ (fun v hv hq => ?_)⟩
        · show 8 + (4 + 11) + (200 + 40 * n) ≤ 200 + 40 * (n + 1)
          omega
        · have e0 : Nat.lor 0 0 = 0 := by decide
          show zGG _ 17 ([(0, .inr (.inl (a, a))), (2, .inr (.inl (b, b)))], [.inr (.inl (v, v))], (h.1, h.2.1, Nat.lor 0 0), 0, 0) = true
          rw [e0]
          exact zGG_i (g17 v hv (fun _ => hq (Or.inl hb0)))
      have g13 : zGo p l e { frames := n + 1 + 1, cells := mX8_common.2.2.2.2.1, slots := mX8_common.2.2.2.2.2.1, locals := 200 + 40 * (n + 1) } s m args below meth c0 Q D vwCl tys o z ws0 4 13 ([(0, .inr (.inl (a, a))), (2, .inr (.inl (b, b)))], [.inr (.inl (b, b)), .inr (.inl (a, a)), .inr (.inl (b, b))], (h.1, h.2.1, 0), 0, 0) := by
        intro f hf ls vst HH locs ws S
        obtain ⟨v1, t1, rfl, h1, h2⟩ := zr2_cons S.2.1
        obtain ⟨v2, t2, rfl, h3, h4⟩ := zr2_cons h2
        obtain ⟨y, rfl, hy⟩ := zlong h1
        obtain ⟨x, rfl, hx⟩ := zlong h3
        have ey : y.toInt = b := Int.le_antisymm hy.2 hy.1
        have ex : x.toInt = a := Int.le_antisymm hx.2 hx.1
        have er := zrem64 x y
        rw [ex, ey] at er
        have rr := z64 (x - x / y * y)
        rw [er] at rr
        have hne : ¬ y = 0 := fun q => hb0 (by rw [← ey, q]; rfl)
        exact lv_lrem C.1 C.2.1 (zda zDX8_common 13 rfl rfl) hne (g14 (a.tmod b) rfl ⟨rr.1, by have := rr.2; show a.tmod b ≤ 9223372036854775807; omega⟩ f hf ls _ HH locs ws (zSat_st S ⟨⟨_, rfl, by rw [er]; exact ⟨Int.le_refl _, Int.le_refl _⟩⟩, h4⟩))
      have g12 : zGo p l e { frames := n + 1 + 1, cells := mX8_common.2.2.2.2.1, slots := mX8_common.2.2.2.2.2.1, locals := 200 + 40 * (n + 1) } s m args below meth c0 Q D vwCl tys o z ws0 4 12 ([(0, .inr (.inl (a, a))), (2, .inr (.inl (b, b)))], [.inr (.inl (a, a)), .inr (.inl (b, b))], (h.1, h.2.1, 0), 0, 0) := zst (hcode 12 _ rfl) hrt (zGG_i g13)
      have g11 : zGo p l e { frames := n + 1 + 1, cells := mX8_common.2.2.2.2.1, slots := mX8_common.2.2.2.2.2.1, locals := 200 + 40 * (n + 1) } s m args below meth c0 Q D vwCl tys o z ws0 4 11 ([(0, .inr (.inl (a, a))), (2, .inr (.inl (b, b)))], [.inr (.inl (b, b))], (h.1, h.2.1, 0), 0, 0) := zst (hcode 11 _ rfl) hrt (zGG_i g12)
      have g10 : zGo p l e { frames := n + 1 + 1, cells := mX8_common.2.2.2.2.1, slots := mX8_common.2.2.2.2.2.1, locals := 200 + 40 * (n + 1) } s m args below meth c0 Q D vwCl tys o z ws0 4 10 ([(0, .inr (.inl (a, a))), (2, .inr (.inl (b, b)))], [], (h.1, h.2.1, 0), 0, 0) := zst (hcode 10 _ rfl) hrt (zGG_i g11)
      have g2 : zGo p l e { frames := n + 1 + 1, cells := mX8_common.2.2.2.2.1, slots := mX8_common.2.2.2.2.2.1, locals := 200 + 40 * (n + 1) } s m args below meth c0 Q D vwCl tys o z ws0 4 2 ([(0, .inr (.inl (a, a))), (2, .inr (.inl (b, b)))], [.inr (.inl (.ofNat 0, .ofNat 0)), .inr (.inl (b, b))], (h.1, h.2.1, 0), 0, 0) := by
        refine zst (hcode 2 _ rfl) hrt ?_
        show zfi (zj_cmp (b, b) (.ofNat 0, .ofNat 0)) (zGG _ 3 ([(0, .inr (.inl (a, a))), (2, .inr (.inl (b, b)))], [.inl (zj_cmp (b, b) (.ofNat 0, .ofNat 0), none)], (h.1, h.2.1, 0), 0, 0)) = true
        rcases Int.lt_or_gt_of_ne hb0 with hl | hg
        · rw [zcmp_n hl]
          have g3 : zGo p l e { frames := n + 1 + 1, cells := mX8_common.2.2.2.2.1, slots := mX8_common.2.2.2.2.2.1, locals := 200 + 40 * (n + 1) } s m args below meth c0 Q D vwCl tys o z ws0 4 3 ([(0, .inr (.inl (a, a))), (2, .inr (.inl (b, b)))], [.inl ((-1, -1), none)], (h.1, h.2.1, 0), 0, 0) := zst (hcode 3 _ rfl) hrt (zGG_i g10)
          exact zGG_i g3
        · rw [zcmp_p hg]
          have g3 : zGo p l e { frames := n + 1 + 1, cells := mX8_common.2.2.2.2.1, slots := mX8_common.2.2.2.2.2.1, locals := 200 + 40 * (n + 1) } s m args below meth c0 Q D vwCl tys o z ws0 4 3 ([(0, .inr (.inl (a, a))), (2, .inr (.inl (b, b)))], [.inl ((1, 1), none)], (h.1, h.2.1, 0), 0, 0) := zst (hcode 3 _ rfl) hrt (zGG_i g10)
          exact zGG_i g3
      have g1 : zGo p l e { frames := n + 1 + 1, cells := mX8_common.2.2.2.2.1, slots := mX8_common.2.2.2.2.2.1, locals := 200 + 40 * (n + 1) } s m args below meth c0 Q D vwCl tys o z ws0 4 1 ([(0, .inr (.inl (a, a))), (2, .inr (.inl (b, b)))], [.inr (.inl (b, b))], (h.1, h.2.1, 0), 0, 0) := zst (hcode 1 _ rfl) hrt (zGG_i g2)
      exact zst (hcode 0 _ rfl) hrt (zGG_i g1)
theorem zacc {h0 : zH} (hz : (zhl (h0.1, h0.2.1, 0) h0 && zsm 0 h0.2.2) = true) {v : Int} (hv : zmem (-9223372036854775808, 9223372036854775807) v) (hne : v ≠ 0) : zkinL [(some (.inr (.inl (.negSucc 9223372036854775807, .negSucc 0))), h0), (some (.inr (.inl (.ofNat 1, .ofNat 9223372036854775807))), h0)] (some (.inr (.inl (v, v)))) (h0.1, h0.2.1, 0) = true := by
  obtain ⟨h1, h2⟩ := hv
  have h1 : -9223372036854775808 ≤ v := h1
  have h2 : v ≤ 9223372036854775807 := h2
  rcases Int.lt_or_gt_of_ne hne with hl | hg
  · have e : zkin (some (.inr (.inl (.negSucc 9223372036854775807, .negSucc 0)))) h0 (some (.inr (.inl (v, v)))) (h0.1, h0.2.1, 0) = true := by
      have e1 : zvl (.inr (.inl (v, v))) (.inr (.inl (.negSucc 9223372036854775807, .negSucc 0))) = true := by
        show (zle (.negSucc 9223372036854775807) v && zle v (.negSucc 0)) = true
        rw [Bool.and_eq_true, zle_iff, zle_iff]
        omega
      show (zvl (.inr (.inl (v, v))) (.inr (.inl (.negSucc 9223372036854775807, .negSucc 0))) && (zhl (h0.1, h0.2.1, 0) h0 && zsm 0 h0.2.2)) = true
      rw [e1, hz]
      rfl
    show (match zkin (some (.inr (.inl (.negSucc 9223372036854775807, .negSucc 0)))) h0 (some (.inr (.inl (v, v)))) (h0.1, h0.2.1, 0) with
      | true => true
      | false => _) = true
    rw [e]
  · have e : zkin (some (.inr (.inl (.ofNat 1, .ofNat 9223372036854775807)))) h0 (some (.inr (.inl (v, v)))) (h0.1, h0.2.1, 0) = true := by
      have e1 : zvl (.inr (.inl (v, v))) (.inr (.inl (.ofNat 1, .ofNat 9223372036854775807))) = true := by
        show (zle (.ofNat 1) v && zle v (.ofNat 9223372036854775807)) = true
        rw [Bool.and_eq_true, zle_iff, zle_iff]
        exact ⟨show (1 : Int) ≤ v by omega, h2⟩
      show (zvl (.inr (.inl (v, v))) (.inr (.inl (.ofNat 1, .ofNat 9223372036854775807))) && (zhl (h0.1, h0.2.1, 0) h0 && zsm 0 h0.2.2)) = true
      rw [e1, hz]
      rfl
    show (match zkin (some (.inr (.inl (.negSucc 9223372036854775807, .negSucc 0)))) h0 (some (.inr (.inl (v, v)))) (h0.1, h0.2.1, 0) with
      | true => true
      | false => (match zkin (some (.inr (.inl (.ofNat 1, .ofNat 9223372036854775807)))) h0 (some (.inr (.inl (v, v)))) (h0.1, h0.2.1, 0) with
        | true => true
        | false => false)) = true
    rw [e]
    split <;> rfl
