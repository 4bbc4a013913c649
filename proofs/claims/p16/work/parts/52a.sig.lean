/-! MORE TOOLS FOR VALUES: arrays of bytes, an int field that is written -/
def zArB (tys : List (ClassId × FieldType)) (ws : va_W) (k a n : Nat) (F : Nat → Int32) : Prop := ∃ cA, (cA, FieldType.byte) ∈ tys ∧ ws[k]? = some (a, .inl (cA, n, .inl F))
section ZVAL2
variable {p : Program} {l : Launch} {e : Env} {R : Room} {s : State} {m : MethodId} {args : Array Value} {below : List Frame} {meth : Method} {c0 : Code} {Q : State → Prop} {D : va_G} {cl : List vw_C} {tys : List (ClassId × FieldType)} {o : zO} {z : Nat} {X : State → Heap → Prop} {Ts : List Cond} {prog : List zM} {ws0 : va_W} {nL : Nat} {own : String} {cc : ByteArray} {ret : Option FieldType} {nm : String}
theorem zArB_cg {d : Nat} {ws ws' : va_W} (h : zcg d ws ws') {k a n : Nat} {F : Nat → Int32} (hA : zArB tys ws k a n F) (hb : zbit d k 0 = false) : zArB tys ws' k a n F := by
  obtain ⟨cA, h1, h2⟩ := hA
  obtain ⟨e', h3, h4⟩ := h k a _ h2
  obtain ⟨x', rfl, h5⟩ := h4
  rw [h5 hb] at h3
  exact ⟨cA, h1, h3⟩
theorem zv_bald (C : zCx p R s m args meth c0 D cl tys z X Ts own cc nL nm) {pc : Nat} (hd : decode cc pc = .ok (.baload, 1)) {H : Heap} {locs : List Loc} {cells slots : Nat} {ls : Array Slot} {rest : List Value} {ws : va_W} {k a n j : Nat} {F : Nat → Int32} {x : Int32} (hP : va_P D cl ws H) (hA : zArB tys ws k a n F) (hx : x.toInt = (j : Int)) (hj : j < n) (kk : W p l e R s m args below meth c0 H locs cells slots Q (F0 m (pc + 1) ls (.int (F j) :: rest))) : W p l e R s m args below meth c0 H locs cells slots Q (F0 m pc ls (.int x :: .ref a :: rest)) := by
  obtain ⟨cA, h1, h2⟩ := hA
  obtain ⟨t0, ht0⟩ := List.getElem?_of_mem h1
  have e : x.toNatClampNeg = j := by show x.toInt.toNat = j; rw [hx]; rfl
  refine va_bald C.1 C.2.1 C.2.2.2.2.2.1 hP _ t0 h2 ht0 (vp_in_iff.mpr ⟨by rw [hx]; omega, by rw [hx]; omega⟩) hd ?_
  rw [e]
  exact kk
theorem zset_same {α : Type} : ∀ {s : List α} {k : Nat} {a : α}, s[k]? = some a → s.set k a = s
  | [], _, _, h => by simp at h
  | _ :: _, 0, _, h => by cases h; rfl
  | _ :: s, k + 1, _, h => by
    have h : s[k]? = some _ := h
    show _ :: s.set k _ = _
    rw [zset_same h]
theorem zv_puti (C : zCx p R s m args meth c0 D cl tys z X Ts own cc nL nm) {pc idx ci k N : Nat} {Cn : String} {T : u_T} (hd : decode cc pc = .ok (.putfield idx, 3)) (hcl : cl[ci]? = some (Cn, T, N)) (hin : ∀ w ∈ u_ws Cn T N, w ∈ Ts) (ty0 : Nat → FieldType) (hty : ∀ k, k < N → parseFieldDescriptor (T k).2.2.1 = some (ty0 k)) (hnm : ∀ a, a < N → ∀ b, b < N → a ≠ b → (T a).2.1 ≠ (T b).2.1) (hk : k < N) (hl : Cond.fieldLink own idx (T k).1 (T k).2.1 (T k).2.2.1 ∈ Ts) (hfin : (T k).2.2.2 = false) (hdt : parseFieldDescriptor (T k).2.2.1 = some .int) {H : Heap} {locs : List Loc} {cells slots : Nat} {ls : Array Slot} {rest : List Value} {ws : va_W} {q0 a : Nat} {fs : List Value} {x : Int32} {h : zH} {gs : List zAV} {a0 : zN} (hw : zwr cl tys o h ws) (hc : zrget h.2.1 q0 = some (.inr (ci, gs))) (ha : gs[k]? = some (.inl a0)) (hx : zmi a0.1 x) (hP : va_P D cl ws H) (hD : va_D (zA z) ws) (hS : va_S (zA z) s.heap H locs) (he : ws[q0]? = some (a, .inr (ci, fs)))
    (kk : ∀ (H1 : Heap) (locs1 : List Loc) (ws1 : va_W), zwr cl tys o h ws1 → va_P D cl ws1 H1 → va_D (zA z) ws1 → va_S (zA z) s.heap H1 locs1 → ws1[q0]? = some (a, .inr (ci, fs.set k (.int x))) → zcg (zdirt 0 q0 k) ws ws1 → W p l e R s m args below meth c0 H1 locs1 cells slots Q (F0 m (pc + 3) ls rest)) : W p l e R s m args below meth c0 H locs cells slots Q (F0 m pc ls (.int x :: .ref a :: rest)) := by
  obtain ⟨c9, a9, e9, g1, g2, g3⟩ := hw.2 q0 (by have := (List.getElem?_eq_some_iff.mp he).1; rw [hw.1] at this; exact this)
  rw [hc] at g1
  cases g1
  rw [he] at g2
  cases g2
  obtain ⟨vs, hv, hvs⟩ := g3
  cases hv
  have hl2 : k < fs.length := by
    rw [← zr2_len hvs]
    exact (List.getElem?_eq_some_iff.mp ha).1
  have hset : zr2 (zgH o (zad ws)) gs (fs.set k (.int x)) := by
    have h9 := zr2_set k hvs (show zgH o (zad ws) (.inl a0) (.int x) from ⟨x, rfl, hx⟩)
    rw [zset_same ha] at h9
    exact h9
  refine zv_put C hd hcl hin ty0 hty hnm hk hl hfin hdt hP hD hS he hl2 rfl rfl (fun H1 locs1 k1 k2 k3 => ?_)
  exact kk H1 locs1 _ (zwr_same hw he hc ⟨_, rfl, hset⟩) k1 k2 k3 (by rw [List.getElem?_set, if_pos rfl, if_pos (List.getElem?_eq_some_iff.mp he).1]) (zcg_obj zcg_rf he)
end ZVAL2
/-! VALUES AS FUNCTIONS: what lies in the world's slots -/
def zwB (ws : va_W) (k : Nat) : Nat := match ws[k]? with
  | some q => q.1
  | none => 0
def zwV (ws : va_W) (k j : Nat) : Value := match ws[k]? with
  | some (_, .inr (_, vs)) => (match vs[j]? with
    | some v => v
    | none => .null)
  | _ => .null
def zwA (ws : va_W) (k : Nat) : Nat → Int32 := match ws[k]? with
  | some (_, .inl (_, _, .inl F)) => F
  | _ => fun _ => 0
def zuv (f : Nat → Nat → Value) (k j : Nat) (v : Value) (k' j' : Nat) : Value := match Nat.beq k' k && Nat.beq j' j with
  | true => v
  | false => f k' j'
def zua (g : Nat → Nat → Int32) (k i : Nat) (v : Int32) (k' : Nat) : Nat → Int32 := match Nat.beq k' k with
  | true => upd (g k) i v
  | false => g k'
theorem zbq_t (k : Nat) : Nat.beq k k = true := Nat.beq_refl k
theorem zbq_f {k k' : Nat} (h : k' ≠ k) : Nat.beq k' k = false := by
  cases hb : Nat.beq k' k with
  | false => rfl
  | true => exact absurd (Nat.eq_of_beq_eq_true hb) h
theorem zwB_of {ws : va_W} {k a : Nat} {e : va_E} (h : ws[k]? = some (a, e)) : zwB ws k = a := by
  unfold zwB
  rw [h]
theorem zwV_of {ws : va_W} {k a ci j : Nat} {vs : List Value} {v : Value} (h : ws[k]? = some (a, .inr (ci, vs))) (hj : vs[j]? = some v) : zwV ws k j = v := by
  unfold zwV
  rw [h]
  dsimp only
  rw [hj]
theorem zwA_of {ws : va_W} {k a n : Nat} {cA : ClassId} {F : Nat → Int32} (h : ws[k]? = some (a, .inl (cA, n, .inl F))) : zwA ws k = F := by
  unfold zwA
  rw [h]
theorem zsg_t {ws : va_W} {k a : Nat} {e e' : va_E} (h : ws[k]? = some (a, e)) : (ws.set k (a, e'))[k]? = some (a, e') := by rw [List.getElem?_set, if_pos rfl, if_pos (List.getElem?_eq_some_iff.mp h).1]
theorem zsg_f {ws : va_W} {k k' : Nat} {x : Nat × va_E} (hk : k' ≠ k) : (ws.set k x)[k']? = ws[k']? := by rw [List.getElem?_set, if_neg (fun q => hk q.symm)]
theorem zwB_set {ws : va_W} {k a : Nat} {e e' : va_E} (h : ws[k]? = some (a, e)) : zwB (ws.set k (a, e')) = zwB ws := by
  funext q
  by_cases hq : q = k
  · subst hq
    rw [zwB_of h, zwB_of (zsg_t h)]
  · unfold zwB
    rw [zsg_f hq]
theorem zwV_set {ws : va_W} {k a ci j : Nat} {fs : List Value} {v : Value} (h : ws[k]? = some (a, .inr (ci, fs))) (hj : j < fs.length) : zwV (ws.set k (a, .inr (ci, fs.set j v))) = zuv (zwV ws) k j v := by
  funext k' j'
  by_cases hk : k' = k
  · subst hk
    have e1 := zsg_t (e' := .inr (ci, fs.set j v)) h
    by_cases hj' : j' = j
    · subst hj'
      rw [zwV_of e1 (v := v) (by rw [List.getElem?_set, if_pos rfl, if_pos hj])]
      unfold zuv
      rw [zbq_t, zbq_t]
      rfl
    · have h2 : zuv (zwV ws) k' j v k' j' = zwV ws k' j' := by
        unfold zuv
        rw [zbq_t, zbq_f hj']
        rfl
      rw [h2]
      unfold zwV
      rw [e1, h]
      dsimp only
      rw [List.getElem?_set, if_neg (fun q => hj' q.symm)]
  · have h2 : zuv (zwV ws) k j v k' j' = zwV ws k' j' := by
      unfold zuv
      rw [zbq_f hk]
      rfl
    rw [h2]
    unfold zwV
    rw [zsg_f hk]
theorem zwA_so {ws : va_W} {k a ci : Nat} {fs fs' : List Value} (h : ws[k]? = some (a, .inr (ci, fs))) : zwA (ws.set k (a, .inr (ci, fs'))) = zwA ws := by
  funext k'
  by_cases hk : k' = k
  · subst hk
    unfold zwA
    rw [zsg_t h, h]
  · unfold zwA
    rw [zsg_f hk]
theorem zwV_sa {ws : va_W} {k a : Nat} {x x' : ClassId × vp_A} (h : ws[k]? = some (a, .inl x)) : zwV (ws.set k (a, .inl x')) = zwV ws := by
  funext k' j'
  by_cases hk : k' = k
  · subst hk
    unfold zwV
    rw [zsg_t h, h]
  · unfold zwV
    rw [zsg_f hk]
theorem zwA_sa {ws : va_W} {k a n i : Nat} {cA : ClassId} {F : Nat → Int32} {v : Int32} (h : ws[k]? = some (a, .inl (cA, n, .inl F))) : zwA (ws.set k (a, .inl (cA, n, .inl (upd F i v)))) = zua (zwA ws) k i v := by
  funext k'
  by_cases hk : k' = k
  · subst hk
    rw [zwA_of (zsg_t (e' := .inl (cA, n, .inl (upd F i v))) h)]
    unfold zua
    rw [zbq_t]
    dsimp only
    rw [zwA_of h]
  · have h2 : zua (zwA ws) k i v k' = zwA ws k' := by
      unfold zua
      rw [zbq_f hk]
    rw [h2]
    unfold zwA
    rw [zsg_f hk]
/-- bounds of an array's elements -/
noncomputable def zelr (rr : zR zAV) (lo hi : Int) (i : Nat) : Bool := match zaget rr i with
  | some (.inl a0) => zle a0.1.1 lo && zle hi a0.1.2
  | _ => false
theorem zelr_ok {rr : zR zAV} {lo hi : Int} {n : Nat} (h : zfor (zelr rr lo hi) n = true) {i : Nat} (hi9 : i < n) {v : Int32} (h1 : lo ≤ v.toInt) (h2 : v.toInt ≤ hi) : ∃ a0 : zN, zaget rr i = some (.inl a0) ∧ a0.1.1 ≤ v.toInt ∧ v.toInt ≤ a0.1.2 := by
  have h3 := zfor_ok h i hi9
  unfold zelr at h3
  split at h3
  · rename_i a0 ha
    simp only [Bool.and_eq_true, zle_iff] at h3
    exact ⟨a0, ha, by omega, by omega⟩
  · cases h3
noncomputable def zele (rr : zR zAV) (lo hi : Int) (i : Nat) : Bool := match zaget rr i with
  | some (.inl a0) => zle lo a0.1.1 && zle a0.1.2 hi
  | _ => false
/-- a world and its values -/
def zV (h : zH) (D : va_G) (tys : List (ClassId × FieldType)) (o : zO) (z : Nat) (H0 : Heap) (b : Nat → Nat) (f : Nat → Nat → Value) (g : Nat → Nat → Int32) (ws : va_W) (H : Heap) (locs : List Loc) : Prop := zwr vwCl tys o h ws ∧ va_P D vwCl ws H ∧ va_D (zA z) ws ∧ va_S (zA z) H0 H locs ∧ zwB ws = b ∧ zwV ws = f ∧ zwA ws = g
def zQF (D : va_G) (tys : List (ClassId × FieldType)) (o : zO) (z : Nat) (h : zH) (b : Nat → Nat) (Post : Option Value → (Nat → Nat → Value) → (Nat → Nat → Int32) → Prop) : Array Value → State → Outcome → State → Prop := fun _ st oc t => (∃ (v : Option Value) (ws' : va_W), oc = .returned v ∧ zwr vwCl tys o h ws' ∧ va_P D vwCl ws' t.heap ∧ va_D (zA z) ws' ∧ zwB ws' = b ∧ Post v (zwV ws') (zwA ws')) ∧ va_F (zA z) st t
/-- what a call does, with values -/
def zCt (l : Launch) (D : va_G) (tys : List (ClassId × FieldType)) (o : zO) (z : Nat) (h : zH) (b : Nat → Nat) (mr : zM) (fr lo : Nat) (vs : List Value) (f : Nat → Nat → Value) (g : Nat → Nat → Int32) (Post : Option Value → (Nat → Nat → Value) → (Nat → Nat → Int32) → Prop) : Prop := ∀ ws : va_W, zwr vwCl tys o h ws → zwB ws = b → zwV ws = f → zwA ws = g → Met l mr.1 (.code mr.1 mr.2.1 mr.2.2.1 mr.2.2.2.1 :: zTs) { frames := fr, cells := mr.2.2.2.2.1, slots := mr.2.2.2.2.2.1, locals := lo } (va_Pc vs (zSt D vwCl tys o z (zXX o z) h ws)) (zQF D tys o z h b Post) mr.2.2.2.2.1 mr.2.2.2.2.2.1 (zA z)
section ZSIG
variable {p : Program} {l : Launch} {e : Env} {R : Room} {s : State} {m : MethodId} {args : Array Value} {below : List Frame} {meth : Method} {c0 : Code} {Q : State → Prop} {D : va_G} {tys : List (ClassId × FieldType)} {o : zO} {z : Nat} {own : String} {cc : ByteArray} {nL : Nat} {nm : String} {h : zH} {H0 : Heap} {b : Nat → Nat} {f : Nat → Nat → Value} {g : Nat → Nat → Int32} {ws : va_W} {H : Heap} {locs : List Loc} {cells slots : Nat} {ls : Array Slot} {rest : List Value}
theorem zCt_mono {mr : zM} {fr lo : Nat} {vs : List Value} {Post Post' : Option Value → (Nat → Nat → Value) → (Nat → Nat → Int32) → Prop} (hM : zCt l D tys o z h b mr fr lo vs f g Post) (hp : ∀ v f' g', Post v f' g' → Post' v f' g') : zCt l D tys o z h b mr fr lo vs f g Post' := by
  intro ws w0 w1 w2 w3 p e a1 a2 a3 s m args below b1 b2 b3 b4
  obtain ⟨n, oc, d1, d2, d3, ⟨⟨⟨v, ws', f1, f2, f3, f4, f5, f6⟩, g1⟩, g2⟩⟩ := hM ws w0 w1 w2 w3 p e a1 a2 a3 s m args below b1 b2 b3 b4
  exact ⟨n, oc, d1, d2, d3, ⟨⟨v, ws', f1, f2, f3, f4, f5, hp _ _ _ f6⟩, g1⟩, g2⟩
/-- a call that is known by its walk -/
theorem zCt_met {mr : zM} {fr lo mk : Nat} {as : List zAV} {r : Option zAV} {vs : List Value} (hM : zMet l D vwCl tys o z (zXX o z) zTs mr fr lo h as (zkin r (h.1, h.2.1, mk))) (hvs : ∀ ws : va_W, zwr vwCl tys o h ws → zwB ws = b → zr2 (zgH o (zad ws)) as vs) : zCt l D tys o z h b mr fr lo vs f g (fun v f' g' => (∃ ad : Nat → Option Nat, zgo o ad r v) ∧ (∀ k j, zbit mk k j = false → f' k j = f k j) ∧ ∀ k, zbit mk k 0 = false → g' k = g k) := by
  intro ws w0 w1 w2 w3 p e a1 a2 a3 s m args below b1 b2 b3 b4
  obtain ⟨n, oc, d1, d2, d3, ⟨⟨⟨r', v, h', ws', f1, f2, f3, f4, f5, f6, f7⟩, g1⟩, g2⟩⟩ := hM ws vs (hvs ws w0 w1) p e a1 a2 a3 s m args below b1 b2 b3 b4
  obtain ⟨k1, k2, k3⟩ := zkin_ok f7 f2
  have hcg : zcg mk ws ws' := zsm_ok k3 f3
  have w5 : zwr vwCl tys o h ws' := zhl_ok (h' := h) (by exact k2) f4
  have hn : ∀ k : Nat, ws[k]? = none → ws'[k]? = none := by
    intro k hk
    rw [List.getElem?_eq_none_iff] at hk ⊢
    rw [w5.1]
    rw [w0.1] at hk
    exact hk
  refine ⟨n, oc, d1, d2, d3, ⟨⟨v, ws', f1, w5, f5, f6, ?_, ⟨_, k1⟩, ?_, ?_⟩, g1⟩, g2⟩
  · rw [← w1]
    funext k
    unfold zwB
    cases hk : ws[k]? with
    | none => rw [hn k hk]
    | some q =>
      obtain ⟨e', h1, -⟩ := hcg k q.1 q.2 hk
      rw [h1]
  · intro k j hb
    rw [← w2]
    unfold zwV
    cases hk : ws[k]? with
    | none => rw [hn k hk]
    | some q =>
      obtain ⟨a, en⟩ := q
      obtain ⟨e', h1, h2⟩ := hcg k a en hk
      rw [h1]
      cases en with
      | inl x =>
        obtain ⟨x', rfl, -⟩ := h2
        rfl
      | inr q =>
        obtain ⟨vs', rfl, -, h3⟩ := h2
        have h4 := h3 j hb
        dsimp only
        rw [h4]
  · intro k hb
    rw [← w3]
    unfold zwA
    cases hk : ws[k]? with
    | none => rw [hn k hk]
    | some q =>
      obtain ⟨a, en⟩ := q
      obtain ⟨e', h1, h2⟩ := hcg k a en hk
      rw [h1]
      cases en with
      | inl x =>
        obtain ⟨x', rfl, h3⟩ := h2
        rw [h3 hb]
      | inr q =>
        obtain ⟨vs', rfl, -, -⟩ := h2
        rfl
theorem zV_ob {k ci : Nat} {gs : List zAV} (hv : zV h D tys o z H0 b f g ws H locs) (hc : zrget h.2.1 k = some (.inr (ci, gs))) (hk : k < h.1) : ∃ vs, ws[k]? = some (b k, .inr (ci, vs)) ∧ zr2 (zgH o (zad ws)) gs vs ∧ ∀ j, j < gs.length → vs[j]? = some (f k j) := by
  obtain ⟨hw, hP, hD, hS, rfl, rfl, rfl⟩ := hv
  obtain ⟨c, a, e, h1, h2, h3⟩ := hw.2 k hk
  rw [hc] at h1
  cases h1
  obtain ⟨vs, rfl, hvs⟩ := h3
  have h2 : ws[k]? = some (a, .inr (ci, vs)) := h2
  refine ⟨vs, by rw [zwB_of h2]; exact h2, hvs, fun j hj => ?_⟩
  have hl : j < vs.length := by rw [← zr2_len hvs]; exact hj
  rw [zwV_of h2 (List.getElem?_eq_getElem hl), List.getElem?_eq_getElem hl]
theorem zV_ad (hv : zV h D tys o z H0 b f g ws H locs) {k : Nat} (hk : k < h.1) : zad ws k = some (b k) := by
  obtain ⟨hw, hP, hD, hS, rfl, rfl, rfl⟩ := hv
  obtain ⟨c, a, e, h1, h2, h3⟩ := hw.2 k hk
  rw [zad_of h2, zwB_of h2]
theorem zV_ref {k ci j k' : Nat} {gs : List zAV} (hv : zV h D tys o z H0 b f g ws H locs) (hc : zrget h.2.1 k = some (.inr (ci, gs))) (hk : k < h.1) (hj : gs[j]? = some (.inr (.inr (.inl k')))) : f k j = .ref (b k') := by
  obtain ⟨vs, h1, h2, h3⟩ := zV_ob hv hc hk
  obtain ⟨v, w1, w2⟩ := zr2_get j h2 hj
  obtain ⟨q, w3, rfl⟩ := w2
  have h4 := h3 j (List.getElem?_eq_some_iff.mp hj).1
  rw [w1] at h4
  have h4 := Option.some.inj h4
  obtain ⟨e, he⟩ := zad_some w3
  rw [← h4, ← hv.2.2.2.2.1, zwB_of he]
theorem zV_int {k ci j : Nat} {gs : List zAV} {a0 : zN} (hv : zV h D tys o z H0 b f g ws H locs) (hc : zrget h.2.1 k = some (.inr (ci, gs))) (hk : k < h.1) (hj : gs[j]? = some (.inl a0)) : ∃ x : Int32, f k j = .int x ∧ zmi a0.1 x := by
  obtain ⟨vs, h1, h2, h3⟩ := zV_ob hv hc hk
  obtain ⟨v, w1, w2⟩ := zr2_get j h2 hj
  obtain ⟨x, rfl, hx⟩ := w2
  have h4 := h3 j (List.getElem?_eq_some_iff.mp hj).1
  rw [w1] at h4
  exact ⟨x, (Option.some.inj h4).symm, hx⟩
theorem zV_get (C : zCx p R s m args meth c0 D vwCl tys z (zXX o z) zTs own cc nL nm) {pc idx ci k j N : Nat} {Cn : String} {T : u_T} {gs : List zAV} {v : Value} (hd : decode cc pc = .ok (.getfield idx, 3)) (hcl : vwCl[ci]? = some (Cn, T, N)) (hin : ∀ w ∈ u_ws Cn T N, w ∈ zTs) (hjN : j < N) (hl : Cond.fieldLink own idx (T j).1 (T j).2.1 (T j).2.2.1 ∈ zTs) (hv : zV h D tys o z s.heap b f g ws H locs) (hc : zrget h.2.1 k = some (.inr (ci, gs))) {a0 : zAV} (hk : k < h.1) (ha : gs[j]? = some a0) (hf : f k j = v) (kk : W p l e R s m args below meth c0 H locs cells slots Q (F0 m (pc + 3) ls (v :: rest))) : W p l e R s m args below meth c0 H locs cells slots Q (F0 m pc ls (.ref (b k) :: rest)) := by
  obtain ⟨vs, h1, -, h3⟩ := zV_ob hv hc hk
  exact zv_get C hd (k := j) hcl hin hjN hl hv.2.1 h1 (by rw [h3 j (List.getElem?_eq_some_iff.mp ha).1, hf]) kk
theorem zV_getN (C : zCx p R s m args meth c0 D vwCl tys z (zXX o z) zTs own cc nL nm) {pc idx ci k j N : Nat} {Cn host : String} {T : u_T} {gs : List zAV} {v : Value} (hd : decode cc pc = .ok (.getfield idx, 3)) (hcl : vwCl[ci]? = some (Cn, T, N)) (hin : ∀ w ∈ u_ws Cn T N, w ∈ zTs) (hjN : j < N) (hl : ∀ U H, zXX o z U H → va_Nw (.fieldLinkNest own idx (T j).1 (T j).2.1 (T j).2.2.1 host) U) (hv : zV h D tys o z s.heap b f g ws H locs) (hc : zrget h.2.1 k = some (.inr (ci, gs))) {a0 : zAV} (hk : k < h.1) (ha : gs[j]? = some a0) (hf : f k j = v) (kk : W p l e R s m args below meth c0 H locs cells slots Q (F0 m (pc + 3) ls (v :: rest))) : W p l e R s m args below meth c0 H locs cells slots Q (F0 m pc ls (.ref (b k) :: rest)) := by
  obtain ⟨vs, h1, -, h3⟩ := zV_ob hv hc hk
  exact va_getN C.1 C.2.1 C.2.2.2.2.1 hin C.2.2.2.1 C.2.2.2.2.2.1 hv.2.1 k h1 hcl j hjN (va_Nw.use rfl (hl _ _ C.2.2.2.2.2.2.2.1)) (fun _ h => h) (by rw [h3 j (List.getElem?_eq_some_iff.mp ha).1, hf]) hd kk
theorem zV_put (C : zCx p R s m args meth c0 D vwCl tys z (zXX o z) zTs own cc nL nm) {pc idx ci k j N : Nat} {Cn : String} {T : u_T} {gs : List zAV} {v : Value} {ty : FieldType} {a0 : zAV} (hd : decode cc pc = .ok (.putfield idx, 3)) (hcl : vwCl[ci]? = some (Cn, T, N)) (hin : ∀ w ∈ u_ws Cn T N, w ∈ zTs) (ty0 : Nat → FieldType) (hty : ∀ k, k < N → parseFieldDescriptor (T k).2.2.1 = some (ty0 k)) (hnm : ∀ a, a < N → ∀ b, b < N → a ≠ b → (T a).2.1 ≠ (T b).2.1) (hjN : j < N) (hl : Cond.fieldLink own idx (T j).1 (T j).2.1 (T j).2.2.1 ∈ zTs) (hfin : (T j).2.2.2 = false) (hdt : parseFieldDescriptor (T j).2.2.1 = some ty) (hv : zV h D tys o z s.heap b f g ws H locs) (hc : zrget h.2.1 k = some (.inr (ci, gs))) (hk : k < h.1) (ha : gs[j]? = some a0) (hx : zgH o (zad ws) a0 v) (hn : narrow ty v = v) (hfit : fits ty v = true) (kk : ∀ (ws1 : va_W) (H1 : Heap) (locs1 : List Loc), zV h D tys o z s.heap b (zuv f k j v) g ws1 H1 locs1 → W p l e R s m args below meth c0 H1 locs1 cells slots Q (F0 m (pc + 3) ls rest)) : W p l e R s m args below meth c0 H locs cells slots Q (F0 m pc ls (v :: .ref (b k) :: rest)) := by
  obtain ⟨vs, h1, h2, h3⟩ := zV_ob hv hc hk
  obtain ⟨hw, hP, hD, hS, e1, e2, e3⟩ := hv
  have hj := (List.getElem?_eq_some_iff.mp ha).1
  have hlv : j < vs.length := by rw [← zr2_len h2]; exact hj
  have hset : zr2 (zgH o (zad ws)) gs (vs.set j v) := by
    have h9 := zr2_set j h2 hx
    rw [zset_same ha] at h9
    exact h9
  refine zv_put C hd hcl hin ty0 hty hnm hjN hl hfin hdt hP hD hS h1 hlv hn hfit (fun H1 locs1 k1 k2 k3 => ?_)
  exact kk _ H1 locs1 ⟨zwr_same hw h1 hc ⟨_, rfl, hset⟩, k1, k2, k3, by rw [zwB_set h1]; exact e1, by rw [zwV_set h1 hlv, e2], by rw [zwA_so h1]; exact e3⟩
theorem zV_puti (C : zCx p R s m args meth c0 D vwCl tys z (zXX o z) zTs own cc nL nm) {pc idx ci k j N : Nat} {Cn : String} {T : u_T} {gs : List zAV} {x : Int32} {a0 : zN} (hd : decode cc pc = .ok (.putfield idx, 3)) (hcl : vwCl[ci]? = some (Cn, T, N)) (hin : ∀ w ∈ u_ws Cn T N, w ∈ zTs) (ty0 : Nat → FieldType) (hty : ∀ k, k < N → parseFieldDescriptor (T k).2.2.1 = some (ty0 k)) (hnm : ∀ a, a < N → ∀ b, b < N → a ≠ b → (T a).2.1 ≠ (T b).2.1) (hjN : j < N) (hl : Cond.fieldLink own idx (T j).1 (T j).2.1 (T j).2.2.1 ∈ zTs) (hfin : (T j).2.2.2 = false) (hdt : parseFieldDescriptor (T j).2.2.1 = some .int) (hv : zV h D tys o z s.heap b f g ws H locs) (hc : zrget h.2.1 k = some (.inr (ci, gs))) (hk : k < h.1) (ha : gs[j]? = some (.inl a0)) (hx : a0.1.1 ≤ x.toInt ∧ x.toInt ≤ a0.1.2) (kk : ∀ (ws1 : va_W) (H1 : Heap) (locs1 : List Loc), zV h D tys o z s.heap b (zuv f k j (.int x)) g ws1 H1 locs1 → W p l e R s m args below meth c0 H1 locs1 cells slots Q (F0 m (pc + 3) ls rest)) : W p l e R s m args below meth c0 H locs cells slots Q (F0 m pc ls (.int x :: .ref (b k) :: rest)) :=
  zV_put C hd hcl hin ty0 hty hnm hjN hl hfin hdt hv hc hk ha ⟨x, rfl, hx⟩ rfl rfl kk
theorem zV_putN (C : zCx p R s m args meth c0 D vwCl tys z (zXX o z) zTs own cc nL nm) {pc idx ci k j N : Nat} {Cn host : String} {T : u_T} {gs : List zAV} {v : Value} {ty : FieldType} {a0 : zAV} (hd : decode cc pc = .ok (.putfield idx, 3)) (hcl : vwCl[ci]? = some (Cn, T, N)) (hin : ∀ w ∈ u_ws Cn T N, w ∈ zTs) (ty0 : Nat → FieldType) (hty : ∀ k, k < N → parseFieldDescriptor (T k).2.2.1 = some (ty0 k)) (hnm : ∀ a, a < N → ∀ b, b < N → a ≠ b → (T a).2.1 ≠ (T b).2.1) (hjN : j < N) (hl : ∀ U H, zXX o z U H → va_Nw (.fieldLinkNest own idx (T j).1 (T j).2.1 (T j).2.2.1 host) U) (hfin : (T j).2.2.2 = false) (hdt : parseFieldDescriptor (T j).2.2.1 = some ty) (hv : zV h D tys o z s.heap b f g ws H locs) (hc : zrget h.2.1 k = some (.inr (ci, gs))) (hk : k < h.1) (ha : gs[j]? = some a0) (hx : zgH o (zad ws) a0 v) (hn : narrow ty v = v) (hfit : fits ty v = true) (kk : ∀ (ws1 : va_W) (H1 : Heap) (locs1 : List Loc), zV h D tys o z s.heap b (zuv f k j v) g ws1 H1 locs1 → W p l e R s m args below meth c0 H1 locs1 cells slots Q (F0 m (pc + 3) ls rest)) : W p l e R s m args below meth c0 H locs cells slots Q (F0 m pc ls (v :: .ref (b k) :: rest)) := by
  obtain ⟨vs, h1, h2, h3⟩ := zV_ob hv hc hk
  obtain ⟨hw, hP, hD, hS, e1, e2, e3⟩ := hv
  have hj := (List.getElem?_eq_some_iff.mp ha).1
  have hlv : j < vs.length := by rw [← zr2_len h2]; exact hj
  have hset : zr2 (zgH o (zad ws)) gs (vs.set j v) := by
    have h9 := zr2_set j h2 hx
    rw [zset_same ha] at h9
    exact h9
  refine va_putN C.1 C.2.1 C.2.2.2.2.1 hin ty0 hty hnm C.2.2.2.1 C.2.2.2.2.2.1 hP hD hS k h1 hcl j hjN (va_Nw.use rfl (hl _ _ C.2.2.2.2.2.2.2.1)) (fun _ h => h) hfin hdt hn hfit hlv hd (fun H1 locs1 k1 k2 k3 => ?_)
  exact kk _ H1 locs1 ⟨zwr_same hw h1 hc ⟨_, rfl, hset⟩, k1, k2, k3, by rw [zwB_set h1]; exact e1, by rw [zwV_set h1 hlv, e2], by rw [zwA_so h1]; exact e3⟩
theorem zV_putiN (C : zCx p R s m args meth c0 D vwCl tys z (zXX o z) zTs own cc nL nm) {pc idx ci k j N : Nat} {Cn host : String} {T : u_T} {gs : List zAV} {x : Int32} {a0 : zN} (hd : decode cc pc = .ok (.putfield idx, 3)) (hcl : vwCl[ci]? = some (Cn, T, N)) (hin : ∀ w ∈ u_ws Cn T N, w ∈ zTs) (ty0 : Nat → FieldType) (hty : ∀ k, k < N → parseFieldDescriptor (T k).2.2.1 = some (ty0 k)) (hnm : ∀ a, a < N → ∀ b, b < N → a ≠ b → (T a).2.1 ≠ (T b).2.1) (hjN : j < N) (hl : ∀ U H, zXX o z U H → va_Nw (.fieldLinkNest own idx (T j).1 (T j).2.1 (T j).2.2.1 host) U) (hfin : (T j).2.2.2 = false) (hdt : parseFieldDescriptor (T j).2.2.1 = some .int) (hv : zV h D tys o z s.heap b f g ws H locs) (hc : zrget h.2.1 k = some (.inr (ci, gs))) (hk : k < h.1) (ha : gs[j]? = some (.inl a0)) (hx : a0.1.1 ≤ x.toInt ∧ x.toInt ≤ a0.1.2) (kk : ∀ (ws1 : va_W) (H1 : Heap) (locs1 : List Loc), zV h D tys o z s.heap b (zuv f k j (.int x)) g ws1 H1 locs1 → W p l e R s m args below meth c0 H1 locs1 cells slots Q (F0 m (pc + 3) ls rest)) : W p l e R s m args below meth c0 H locs cells slots Q (F0 m pc ls (.int x :: .ref (b k) :: rest)) :=
  zV_putN C hd hcl hin ty0 hty hnm hjN hl hfin hdt hv hc hk ha ⟨x, rfl, hx⟩ rfl rfl kk
theorem zV_ar0 {k n : Nat} {rr : zR zAV} (hv : zV h D tys o z H0 b f g ws H locs) (hc : zrget h.2.1 k = some (.inl (0, n, rr))) (hk : k < h.1) : ∃ cA, (cA, FieldType.int) ∈ tys ∧ ws[k]? = some (b k, .inl (cA, n, .inl (g k))) ∧ ∀ i, i < n → ∃ a, zaget rr i = some a ∧ zgH o (zad ws) a (.int (g k i)) := by
  obtain ⟨hw, hP, hD, hS, rfl, rfl, rfl⟩ := hv
  obtain ⟨c, a, e, h1, h2, h3⟩ := hw.2 k hk
  rw [hc] at h1
  cases h1
  obtain ⟨cA, hA, F, rfl, hF⟩ := h3
  have h4 : zwA ws k = F := zwA_of h2
  refine ⟨cA, hA, by rw [zwB_of h2, h4]; exact h2, fun i hi => ?_⟩
  rw [h4]
  exact hF i hi
theorem zV_rn0 {k n i : Nat} {rr : zR zAV} {lo hi : Int} (hv : zV h D tys o z H0 b f g ws H locs) (hc : zrget h.2.1 k = some (.inl (0, n, rr))) (hk : k < h.1) (hl : zfor (zele rr lo hi) n = true) (hi9 : i < n) : lo ≤ (g k i).toInt ∧ (g k i).toInt ≤ hi := by
  obtain ⟨cA, hA, h1, h2⟩ := zV_ar0 hv hc hk
  obtain ⟨a, h3, h4⟩ := h2 i hi9
  have h5 := zfor_ok hl i hi9
  unfold zele at h5
  rw [h3] at h5
  split at h5
  · rename_i a0 ha
    cases ha
    simp only [Bool.and_eq_true, zle_iff] at h5
    obtain ⟨x, hx, h6, h7⟩ := h4
    cases hx
    exact ⟨by omega, by omega⟩
  · cases h5
theorem zV_ld0 (C : zCx p R s m args meth c0 D vwCl tys z (zXX o z) zTs own cc nL nm) {pc k n i : Nat} {rr : zR zAV} {x : Int32} (hd : decode cc pc = .ok (.iaload, 1)) (hv : zV h D tys o z s.heap b f g ws H locs) (hc : zrget h.2.1 k = some (.inl (0, n, rr))) (hk : k < h.1) (hx : x.toInt = (i : Int)) (hi : i < n) (kk : W p l e R s m args below meth c0 H locs cells slots Q (F0 m (pc + 1) ls (.int (g k i) :: rest))) : W p l e R s m args below meth c0 H locs cells slots Q (F0 m pc ls (.int x :: .ref (b k) :: rest)) := by
  obtain ⟨cA, hA, h1, -⟩ := zV_ar0 hv hc hk
  exact zv_iald C hd hv.2.1 ⟨cA, hA, h1⟩ hx hi kk
theorem zV_st0 (C : zCx p R s m args meth c0 D vwCl tys z (zXX o z) zTs own cc nL nm) {pc k n i : Nat} {rr : zR zAV} {x v : Int32} (hd : decode cc pc = .ok (.iastore, 1)) (hv : zV h D tys o z s.heap b f g ws H locs) (hc : zrget h.2.1 k = some (.inl (0, n, rr))) (hk : k < h.1) (hx : x.toInt = (i : Int)) (hi : i < n) (hr : ∃ a0 : zN, zaget rr i = some (.inl a0) ∧ a0.1.1 ≤ (v).toInt ∧ (v).toInt ≤ a0.1.2) (kk : ∀ (ws1 : va_W) (H1 : Heap) (locs1 : List Loc), zV h D tys o z s.heap b f (zua g k i (v)) ws1 H1 locs1 → W p l e R s m args below meth c0 H1 locs1 cells slots Q (F0 m (pc + 1) ls rest)) : W p l e R s m args below meth c0 H locs cells slots Q (F0 m pc ls (.int v :: .int x :: .ref (b k) :: rest)) := by
  obtain ⟨cA, hA, h1, h2⟩ := zV_ar0 hv hc hk
  obtain ⟨hw, hP, hD, hS, e1, e2, e3⟩ := hv
  obtain ⟨t0, ht0⟩ := List.getElem?_of_mem hA
  have e : x.toNatClampNeg = i := by show x.toInt.toNat = i; rw [hx]; rfl
  refine va_iast C.1 C.2.1 C.2.2.2.2.2.1 hP hD hS _ t0 h1 ht0 (vp_in_iff.mpr ⟨by rw [hx]; omega, by rw [hx]; omega⟩) hd (fun H1 locs1 p1 p2 p3 => ?_)
  rw [e] at p1 p2
  refine kk _ H1 locs1 ⟨zwr_same hw h1 hc ⟨cA, hA, _, rfl, fun i' hi' => ?_⟩, p1, p2, p3, by rw [zwB_set h1]; exact e1, by rw [zwV_sa h1]; exact e2, by rw [zwA_sa h1, e3]⟩
  by_cases hij : i' = i
  · subst hij
    obtain ⟨a0, ha, hr⟩ := hr
    refine ⟨_, ha, _, rfl, ?_⟩
    have e9 : upd (g k) i' (v) i' = (v) := by unfold upd; rw [if_pos rfl]
    rw [e9]
    exact hr
  · obtain ⟨v0, k1, k2⟩ := h2 i' hi'
    refine ⟨v0, k1, ?_⟩
    have e9 : upd (g k) i (v) i' = g k i' := by unfold upd; rw [if_neg hij]
    rw [e9]
    exact k2
theorem zV_ar3 {k n : Nat} {rr : zR zAV} (hv : zV h D tys o z H0 b f g ws H locs) (hc : zrget h.2.1 k = some (.inl (3, n, rr))) (hk : k < h.1) : ∃ cA, (cA, FieldType.byte) ∈ tys ∧ ws[k]? = some (b k, .inl (cA, n, .inl (g k))) ∧ ∀ i, i < n → ∃ a, zaget rr i = some a ∧ zgH o (zad ws) a (.int (g k i)) := by
  obtain ⟨hw, hP, hD, hS, rfl, rfl, rfl⟩ := hv
  obtain ⟨c, a, e, h1, h2, h3⟩ := hw.2 k hk
  rw [hc] at h1
  cases h1
  obtain ⟨cA, hA, F, rfl, hF⟩ := h3
  have h4 : zwA ws k = F := zwA_of h2
  refine ⟨cA, hA, by rw [zwB_of h2, h4]; exact h2, fun i hi => ?_⟩
  rw [h4]
  exact hF i hi
theorem zV_rn3 {k n i : Nat} {rr : zR zAV} {lo hi : Int} (hv : zV h D tys o z H0 b f g ws H locs) (hc : zrget h.2.1 k = some (.inl (3, n, rr))) (hk : k < h.1) (hl : zfor (zele rr lo hi) n = true) (hi9 : i < n) : lo ≤ (g k i).toInt ∧ (g k i).toInt ≤ hi := by
  obtain ⟨cA, hA, h1, h2⟩ := zV_ar3 hv hc hk
  obtain ⟨a, h3, h4⟩ := h2 i hi9
  have h5 := zfor_ok hl i hi9
  unfold zele at h5
  rw [h3] at h5
  split at h5
  · rename_i a0 ha
    cases ha
    simp only [Bool.and_eq_true, zle_iff] at h5
    obtain ⟨x, hx, h6, h7⟩ := h4
    cases hx
    exact ⟨by omega, by omega⟩
  · cases h5
theorem zV_ld3 (C : zCx p R s m args meth c0 D vwCl tys z (zXX o z) zTs own cc nL nm) {pc k n i : Nat} {rr : zR zAV} {x : Int32} (hd : decode cc pc = .ok (.baload, 1)) (hv : zV h D tys o z s.heap b f g ws H locs) (hc : zrget h.2.1 k = some (.inl (3, n, rr))) (hk : k < h.1) (hx : x.toInt = (i : Int)) (hi : i < n) (kk : W p l e R s m args below meth c0 H locs cells slots Q (F0 m (pc + 1) ls (.int (g k i) :: rest))) : W p l e R s m args below meth c0 H locs cells slots Q (F0 m pc ls (.int x :: .ref (b k) :: rest)) := by
  obtain ⟨cA, hA, h1, -⟩ := zV_ar3 hv hc hk
  exact zv_bald C hd hv.2.1 ⟨cA, hA, h1⟩ hx hi kk
theorem zV_st3 (C : zCx p R s m args meth c0 D vwCl tys z (zXX o z) zTs own cc nL nm) {pc k n i : Nat} {rr : zR zAV} {x v : Int32} (hd : decode cc pc = .ok (.bastore, 1)) (hv : zV h D tys o z s.heap b f g ws H locs) (hc : zrget h.2.1 k = some (.inl (3, n, rr))) (hk : k < h.1) (hx : x.toInt = (i : Int)) (hi : i < n) (hr : ∃ a0 : zN, zaget rr i = some (.inl a0) ∧ a0.1.1 ≤ (vp_nar .byte v).toInt ∧ (vp_nar .byte v).toInt ≤ a0.1.2) (kk : ∀ (ws1 : va_W) (H1 : Heap) (locs1 : List Loc), zV h D tys o z s.heap b f (zua g k i (vp_nar .byte v)) ws1 H1 locs1 → W p l e R s m args below meth c0 H1 locs1 cells slots Q (F0 m (pc + 1) ls rest)) : W p l e R s m args below meth c0 H locs cells slots Q (F0 m pc ls (.int v :: .int x :: .ref (b k) :: rest)) := by
  obtain ⟨cA, hA, h1, h2⟩ := zV_ar3 hv hc hk
  obtain ⟨hw, hP, hD, hS, e1, e2, e3⟩ := hv
  obtain ⟨t0, ht0⟩ := List.getElem?_of_mem hA
  have e : x.toNatClampNeg = i := by show x.toInt.toNat = i; rw [hx]; rfl
  refine va_bast C.1 C.2.1 C.2.2.2.2.2.1 hP hD hS _ t0 h1 ht0 (vp_in_iff.mpr ⟨by rw [hx]; omega, by rw [hx]; omega⟩) hd (fun H1 locs1 p1 p2 p3 => ?_)
  rw [e] at p1 p2
  refine kk _ H1 locs1 ⟨zwr_same hw h1 hc ⟨cA, hA, _, rfl, fun i' hi' => ?_⟩, p1, p2, p3, by rw [zwB_set h1]; exact e1, by rw [zwV_sa h1]; exact e2, by rw [zwA_sa h1, e3]⟩
  by_cases hij : i' = i
  · subst hij
    obtain ⟨a0, ha, hr⟩ := hr
    refine ⟨_, ha, _, rfl, ?_⟩
    have e9 : upd (g k) i' (vp_nar .byte v) i' = (vp_nar .byte v) := by unfold upd; rw [if_pos rfl]
    rw [e9]
    exact hr
  · obtain ⟨v0, k1, k2⟩ := h2 i' hi'
    refine ⟨v0, k1, ?_⟩
    have e9 : upd (g k) i (vp_nar .byte v) i' = g k i' := by unfold upd; rw [if_neg hij]
    rw [e9]
    exact k2
/-- a method from its first instruction on -/
theorem zCt_of {mr : zM} {fr lo : Nat} {vs : List Value} {Post : Option Value → (Nat → Nat → Value) → (Nat → Nat → Int32) → Prop} (hy : plainName mr.1.cls = true) (k0 : 1 ≤ fr) (k1 : 200 ≤ lo) (k2 : (lg_sl vs).length ≤ mr.2.2.1) (hc0 : mr.2.2.2.2.1 = 0) (hs0 : mr.2.2.2.2.2.1 = 0) (HH : ∀ (p : Program) (e : Env) (s : State) (m : MethodId) (below : List Frame) (meth : Method) (c0 : Code) (Q : State → Prop) (ls : Array Slot) (ws : va_W), zCx p { frames := fr, cells := mr.2.2.2.2.1, slots := mr.2.2.2.2.2.1, locals := lo } s m vs.toArray meth c0 D vwCl tys z (zXX o z) zTs mr.1.cls mr.2.1 mr.2.2.1 mr.1.name → (∀ (pc : Nat) (ls : Array Slot) (v : Option Value) (H : Heap) (locs : List Loc) (ws' : va_W) (f' : Nat → Nat → Value) (g' : Nat → Nat → Int32), zRetI mr.2.1 mr.2.2.2.1 pc v → zV h D tys o z s.heap b f' g' ws' H locs → Post v f' g' → W p l e { frames := fr, cells := mr.2.2.2.2.1, slots := mr.2.2.2.2.2.1, locals := lo } s m vs.toArray below meth c0 H locs 0 0 Q (F0 m pc ls v.toList)) → zV h D tys o z s.heap b f g ws s.heap [] → lv_has ls mr.2.2.1 (lv_args 0 vs) → W p l e { frames := fr, cells := mr.2.2.2.2.1, slots := mr.2.2.2.2.2.1, locals := lo } s m vs.toArray below meth c0 s.heap [] 0 0 Q (F0 m 0 ls [])) : zCt l D tys o z h b mr fr lo vs f g Post := by
  intro ws hw0 hb hf hg
  refine Met.ofW (cc := mr.2.1) (maxL := mr.2.2.1) (ret := mr.2.2.2.1) hy rfl ?_
  intro p' e' s' m' args' below' meth' c' s₁ B hml hv
  obtain ⟨rfl, v1, v2, v3, v4, v5, v6⟩ := hv
  have hts := atoms_spec B.pre
  have CX' : zCx p' { frames := fr, cells := mr.2.2.2.2.1, slots := mr.2.2.2.2.2.1, locals := lo } s' m' vs.toArray meth' c' D vwCl tys z (zXX o z) zTs mr.1.cls mr.2.1 mr.2.2.1 mr.1.name := ⟨B.exec, B.bytes, hml, findClass_of_methodNamed B.named, fun w hw => hts w (List.mem_cons_of_mem _ hw), v4, (name_of_methodNamed B.named B.method).1, v5, v6, k0, k1⟩
  have hl := lv_entry vs (n := mr.2.2.1) k2
  rw [lg_entry_eq]
  refine HH p' e' s' m' below' meth' c' _ _ ws CX' ?_ ⟨v1, v2, v3, va_S.rf, hb, hf, hg⟩ hl
  intro pc ls v H locs ws' f' g' q1 q2 q3
  have hq : ∀ t : State, t.heap = H → s'.WarmedH t.vm → zQF D tys o z h b Post vs.toArray s' (.returned v) t := fun t ht _ => ⟨⟨v, ws', rfl, q2.1, by rw [ht]; exact q2.2.1, q2.2.2.1, q2.2.2.2.2.1, by rw [q2.2.2.2.2.2.1, q2.2.2.2.2.2.2]; exact q3⟩, q2.2.2.2.1.F ht⟩
  refine W.widen (k := mr.2.2.2.2.1) (n := mr.2.2.2.2.2.1) (by omega) (by omega) ?_
  cases v with
  | none =>
    obtain ⟨e1, e2⟩ := q1
    exact W.vret B.exec B.bytes (B.returns.trans e1) hq q2.2.2.2.1.2.2 e2 B.notSynchronized
  | some w =>
    rcases q1 with ⟨x, ty, rfl, e1, e2, e3⟩ | ⟨x, rfl, e1, e3⟩ | ⟨x, rt, rfl, e1, e2, e3⟩
    · exact W.zret B.exec B.bytes (B.returns.trans e1) e2 hq q2.2.2.2.1.2.2 e3 B.notSynchronized
    · exact W.lret B.exec B.bytes (B.returns.trans e1) hq q2.2.2.2.1.2.2 e3 B.notSynchronized
    · exact W.aret B.exec B.bytes (B.returns.trans e1) e2 (Or.inr ⟨x, rfl⟩) hq q2.2.2.2.1.2.2 e3 B.notSynchronized
theorem zV_callV (C : zCx p R s m args meth c0 D vwCl tys z (zXX o z) zTs own cc nL nm) {pc n idx fr lo : Nat} {mr : zM} {As : List Value} {Post : Option Value → (Nat → Nat → Value) → (Nat → Nat → Int32) → Prop} {ci k N : Nat} {T : u_T} {gs : List zAV} (hM : zCt l D tys o z h b mr fr lo (.ref (b k) :: As) f g Post) (hc0 : mr.2.2.2.2.1 = 0) (hs0 : mr.2.2.2.2.2.1 = 0) (hF : fr + 1 ≤ R.frames) (hL : 8 + (mr.2.2.1 + 11) + lo ≤ R.locals) (hcl : vwCl[ci]? = some (mr.1.cls, T, N)) (hcode : Cond.code mr.1 mr.2.1 mr.2.2.1 mr.2.2.2.1 ∈ zTs) (hl : Cond.methodLink own idx mr.1 ∈ zTs) (hin : Cond.instanceMethod mr.1 ∈ zTs) (hsel : Cond.selects mr.1.cls mr.1 mr.1 ∈ zTs) (hini : Cond.initialized mr.1.cls ∈ zTs) (hpar : zPar mr.1 n) (hd : decode cc pc = .ok (.invokevirtual idx, 3)) (hlen : As.length = n) (hc : zrget h.2.1 k = some (.inr (ci, gs))) (hk : k < h.1) (hv : zV h D tys o z s.heap b f g ws H locs) (hsz : ls.size = nL) (hroom : (rest.map fun v => v.category).sum ≤ 8) (hcb : cells ≤ R.cells) (hsb : slots ≤ R.slots)
    (kk : ∀ (v : Option Value) (f' : Nat → Nat → Value) (g' : Nat → Nat → Int32) (ws' : va_W) (H1 : Heap) (locs1 : List Loc), Post v f' g' → zV h D tys o z s.heap b f' g' ws' H1 locs1 → W p l e R s m args below meth c0 H1 locs1 cells slots Q (F0 m (pc + 3) ls (v.toList ++ rest))) : W p l e R s m args below meth c0 H locs cells slots Q (F0 m pc ls (As.reverse ++ .ref (b k) :: rest)) := by
  obtain ⟨hw, hP, hD, hS, w1, w2, w3⟩ := id hv
  have hM := hM ws hw w1 w2 w3
  obtain ⟨vs9, hob, -, -⟩ := zV_ob hv hc hk
  have hcell := va_recv C.2.2.2.2.2.1 hP hcl hob
  have hrun := va_runV (As := As) (b := b k) (H := H) (locs := locs) (cells := cells) (slots := slots) (rest := rest) (g := F0 m pc ls (As.reverse ++ .ref (b k) :: rest)) (mc := mr.2.2.2.2.1) (ms := mr.2.2.2.2.2.1) (n := n) (C := mr.1.cls) (index := idx) (below := below) (e := e) (meth := meth) ⟨C.1, C.2.1, C.2.2.1, C.2.2.2.1, C.2.2.2.2.1⟩ hM ⟨callB_of n C.2.2.2.2.1 (zgood zTs_good hcode) rfl rfl rfl (C.2.2.2.2.1 _ hini) (C.2.2.2.2.1 _ hl) hpar ⟨hF, hL⟩, C.2.2.2.2.1 _ hin, C.2.2.2.2.1 _ hsel⟩ ⟨zblind zXX_ok, hcell, fun U hU hW => ⟨rfl, hw, by rw [hU]; exact hP, hD, va_K.moved hW.alike C.2.2.2.2.2.1, by rw [hU]; exact zXX_ok.2.1 s U H hW (zXX_ok.2.2 s s.heap H C.2.2.2.2.2.2.2.2.1 (fun q hq => hS.2.1 q (Nat.lt_of_lt_of_le hq C.2.2.2.2.2.2.2.2.1) (Nat.not_le.mpr hq)) C.2.2.2.2.2.2.2.1), by rw [hU]; exact Nat.le_trans C.2.2.2.2.2.2.2.2.1 hS.1⟩⟩ rfl hlen hsz rfl (lv_room hroom) hd ⟨by rw [hc0]; exact hcb, by rw [hs0]; exact hsb⟩
  intro T9 hT Y
  obtain ⟨v, st₀, t, T', L, h0, Y', hL9, e1, e2, ⟨⟨v', ws', hvv, p1, p2, p3, p4, p5⟩, hz, hk9⟩, st⟩ := hrun T9 hT Y
  cases hvv
  rw [h0] at hz hk9
  rw [← e1] at p2
  rw [hc0, hs0] at Y'
  obtain ⟨t2, a1, b1⟩ := kk _ _ _ ws' T'.heap (locs ++ L) p5 ⟨p1, p2, p3, ⟨Nat.le_trans hS.1 (by rw [e1]; exact hz), fun q h1 h2 => by rw [e1, hk9 q (Nat.lt_of_lt_of_le h1 hS.1) h2]; exact hS.2.1 q h1 h2, fun q hq => by
      rcases List.mem_append.mp hq with h | h
      · exact hS.2.2 q h
      · exact hL9 q h⟩, p4, rfl, rfl⟩ T' rfl Y'
  exact ⟨t2, st t2 a1, b1⟩
theorem zV_callN (C : zCx p R s m args meth c0 D vwCl tys z (zXX o z) zTs own cc nL nm) {pc n idx fr lo : Nat} {mr : zM} {As : List Value} {Post : Option Value → (Nat → Nat → Value) → (Nat → Nat → Int32) → Prop} {ci k N : Nat} {T : u_T} {gs : List zAV} (hM : zCt l D tys o z h b mr fr lo (.ref (b k) :: As) f g Post) (hc0 : mr.2.2.2.2.1 = 0) (hs0 : mr.2.2.2.2.2.1 = 0) (hF : fr + 1 ≤ R.frames) (hL : 8 + (mr.2.2.1 + 11) + lo ≤ R.locals) {host : String} (hcl : vwCl[ci]? = some (mr.1.cls, T, N)) (hcode : Cond.code mr.1 mr.2.1 mr.2.2.1 mr.2.2.2.1 ∈ zTs) (hl : ∀ U H, zXX o z U H → va_Nw (.methodLinkNest own idx mr.1 host) U) (hin : Cond.instanceMethod mr.1 ∈ zTs) (hsel : Cond.selects mr.1.cls mr.1 mr.1 ∈ zTs) (hini : Cond.initialized mr.1.cls ∈ zTs) (hpar : zPar mr.1 n) (hd : decode cc pc = .ok (.invokevirtual idx, 3)) (hlen : As.length = n) (hc : zrget h.2.1 k = some (.inr (ci, gs))) (hk : k < h.1) (hv : zV h D tys o z s.heap b f g ws H locs) (hsz : ls.size = nL) (hroom : (rest.map fun v => v.category).sum ≤ 8) (hcb : cells ≤ R.cells) (hsb : slots ≤ R.slots)
    (kk : ∀ (v : Option Value) (f' : Nat → Nat → Value) (g' : Nat → Nat → Int32) (ws' : va_W) (H1 : Heap) (locs1 : List Loc), Post v f' g' → zV h D tys o z s.heap b f' g' ws' H1 locs1 → W p l e R s m args below meth c0 H1 locs1 cells slots Q (F0 m (pc + 3) ls (v.toList ++ rest))) : W p l e R s m args below meth c0 H locs cells slots Q (F0 m pc ls (As.reverse ++ .ref (b k) :: rest)) := by
  obtain ⟨hw, hP, hD, hS, w1, w2, w3⟩ := id hv
  have hM := hM ws hw w1 w2 w3
  obtain ⟨vs9, hob, -, -⟩ := zV_ob hv hc hk
  have hcell := va_recv C.2.2.2.2.2.1 hP hcl hob
  have hrun := va_runVN (As := As) (b := b k) (H := H) (locs := locs) (cells := cells) (slots := slots) (rest := rest) (g := F0 m pc ls (As.reverse ++ .ref (b k) :: rest)) (mc := mr.2.2.2.2.1) (ms := mr.2.2.2.2.2.1) (n := n) (C := mr.1.cls) (index := idx) (below := below) (e := e) (meth := meth) ⟨C.1, C.2.1, C.2.2.1, C.2.2.2.1, C.2.2.2.2.1⟩ hM ⟨va_cnB n C.2.2.2.2.1 (zgood zTs_good hcode) rfl rfl rfl (hl _ _ C.2.2.2.2.2.2.2.1) (C.2.2.2.2.1 _ hini) hpar ⟨hF, hL⟩, C.2.2.2.2.1 _ hin, C.2.2.2.2.1 _ hsel⟩ ⟨zblind zXX_ok, hcell, fun U hU hW => ⟨rfl, hw, by rw [hU]; exact hP, hD, va_K.moved hW.alike C.2.2.2.2.2.1, by rw [hU]; exact zXX_ok.2.1 s U H hW (zXX_ok.2.2 s s.heap H C.2.2.2.2.2.2.2.2.1 (fun q hq => hS.2.1 q (Nat.lt_of_lt_of_le hq C.2.2.2.2.2.2.2.2.1) (Nat.not_le.mpr hq)) C.2.2.2.2.2.2.2.1), by rw [hU]; exact Nat.le_trans C.2.2.2.2.2.2.2.2.1 hS.1⟩⟩ rfl hlen hsz rfl (lv_room hroom) hd ⟨by rw [hc0]; exact hcb, by rw [hs0]; exact hsb⟩
  intro T9 hT Y
  obtain ⟨v, st₀, t, T', L, h0, Y', hL9, e1, e2, ⟨⟨v', ws', hvv, p1, p2, p3, p4, p5⟩, hz, hk9⟩, st⟩ := hrun T9 hT Y
  cases hvv
  rw [h0] at hz hk9
  rw [← e1] at p2
  rw [hc0, hs0] at Y'
  obtain ⟨t2, a1, b1⟩ := kk _ _ _ ws' T'.heap (locs ++ L) p5 ⟨p1, p2, p3, ⟨Nat.le_trans hS.1 (by rw [e1]; exact hz), fun q h1 h2 => by rw [e1, hk9 q (Nat.lt_of_lt_of_le h1 hS.1) h2]; exact hS.2.1 q h1 h2, fun q hq => by
      rcases List.mem_append.mp hq with h | h
      · exact hS.2.2 q h
      · exact hL9 q h⟩, p4, rfl, rfl⟩ T' rfl Y'
  exact ⟨t2, st t2 a1, b1⟩
theorem zV_callS (C : zCx p R s m args meth c0 D vwCl tys z (zXX o z) zTs own cc nL nm) {pc n idx fr lo : Nat} {mr : zM} {As : List Value} {Post : Option Value → (Nat → Nat → Value) → (Nat → Nat → Int32) → Prop} (hM : zCt l D tys o z h b mr fr lo As f g Post) (hc0 : mr.2.2.2.2.1 = 0) (hs0 : mr.2.2.2.2.2.1 = 0) (hF : fr + 1 ≤ R.frames) (hL : 8 + (mr.2.2.1 + 11) + lo ≤ R.locals) (hcode : Cond.code mr.1 mr.2.1 mr.2.2.1 mr.2.2.2.1 ∈ zTs) (hl : Cond.methodLink own idx mr.1 ∈ zTs) (hst : Cond.static mr.1 ∈ zTs) (hini : Cond.initialized mr.1.cls ∈ zTs) (hpar : zPar mr.1 n) (hd : decode cc pc = .ok (.invokestatic idx, 3)) (hlen : As.length = n) (hv : zV h D tys o z s.heap b f g ws H locs) (hsz : ls.size = nL) (hroom : (rest.map fun v => v.category).sum ≤ 8) (hcb : cells ≤ R.cells) (hsb : slots ≤ R.slots)
    (kk : ∀ (v : Option Value) (f' : Nat → Nat → Value) (g' : Nat → Nat → Int32) (ws' : va_W) (H1 : Heap) (locs1 : List Loc), Post v f' g' → zV h D tys o z s.heap b f' g' ws' H1 locs1 → W p l e R s m args below meth c0 H1 locs1 cells slots Q (F0 m (pc + 3) ls (v.toList ++ rest))) : W p l e R s m args below meth c0 H locs cells slots Q (F0 m pc ls (As.reverse ++ rest)) := by
  obtain ⟨hw, hP, hD, hS, w1, w2, w3⟩ := id hv
  have hM := hM ws hw w1 w2 w3
  have hrun := va_runS (As := As) (H := H) (locs := locs) (cells := cells) (slots := slots) (rest := rest) (g := F0 m pc ls (As.reverse ++ rest)) (mc := mr.2.2.2.2.1) (ms := mr.2.2.2.2.2.1) (n := n) (index := idx) (below := below) (e := e) (meth := meth) ⟨C.1, C.2.1, C.2.2.1, C.2.2.2.1, C.2.2.2.2.1⟩ hM ⟨callB_of n C.2.2.2.2.1 (zgood zTs_good hcode) rfl rfl rfl (C.2.2.2.2.1 _ hini) (C.2.2.2.2.1 _ hl) hpar ⟨hF, hL⟩, C.2.2.2.2.1 _ hst⟩ ⟨zblind zXX_ok, fun U hU hW => ⟨rfl, hw, by rw [hU]; exact hP, hD, va_K.moved hW.alike C.2.2.2.2.2.1, by rw [hU]; exact zXX_ok.2.1 s U H hW (zXX_ok.2.2 s s.heap H C.2.2.2.2.2.2.2.2.1 (fun q hq => hS.2.1 q (Nat.lt_of_lt_of_le hq C.2.2.2.2.2.2.2.2.1) (Nat.not_le.mpr hq)) C.2.2.2.2.2.2.2.1), by rw [hU]; exact Nat.le_trans C.2.2.2.2.2.2.2.2.1 hS.1⟩⟩ rfl hlen hsz rfl (lv_room hroom) hd ⟨by rw [hc0]; exact hcb, by rw [hs0]; exact hsb⟩
  intro T9 hT Y
  obtain ⟨v, st₀, t, T', L, h0, Y', hL9, e1, e2, ⟨⟨v', ws', hvv, p1, p2, p3, p4, p5⟩, hz, hk9⟩, st⟩ := hrun T9 hT Y
  cases hvv
  rw [h0] at hz hk9
  rw [← e1] at p2
  rw [hc0, hs0] at Y'
  obtain ⟨t2, a1, b1⟩ := kk _ _ _ ws' T'.heap (locs ++ L) p5 ⟨p1, p2, p3, ⟨Nat.le_trans hS.1 (by rw [e1]; exact hz), fun q h1 h2 => by rw [e1, hk9 q (Nat.lt_of_lt_of_le h1 hS.1) h2]; exact hS.2.1 q h1 h2, fun q hq => by
      rcases List.mem_append.mp hq with h | h
      · exact hS.2.2 q h
      · exact hL9 q h⟩, p4, rfl, rfl⟩ T' rfl Y'
  exact ⟨t2, st t2 a1, b1⟩
end ZSIG
