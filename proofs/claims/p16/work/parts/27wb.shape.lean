noncomputable def xqT : zR xq_Sh := [[.inl (7, [2, 2, 2, 2, 2, 2, 2, 2, 2, 2, 2, 2, 2, 0, 3, 0]), .inl (6, [2, 0]), .inr (0, 80), .inl (0, [2, 2, 2, 2, 2, 2, 0, 0, 0, 3, 0, 0]), .inr (0, 8), .inr (0, 8), .inr (0, 8), .inr (0, 7), .inr (0, 8), .inr (0, 8), .inl (3, [2, 2, 2, 2, 0, 0, 0, 0, 4]), .inr (0, 40), .inr (0, 40), .inr (0, 40), .inr (2, 5), .inl (5, [2, 2, 0, 0, 0, 0])],
  [.inr (0, 8), .inr (0, 8), .inl (5, [2, 2, 0, 0, 0, 0]), .inr (0, 8), .inr (0, 8), .inl (5, [2, 2, 0, 0, 0, 0]), .inr (0, 8), .inr (0, 8), .inl (2, [2, 0, 0]), .inr (9, 12), .inl (5, [2, 2, 0, 0, 0, 0]), .inr (0, 8), .inr (0, 8), .inl (5, [2, 2, 0, 0, 0, 0]), .inr (0, 8), .inr (0, 8)],
  [.inl (5, [2, 2, 0, 0, 0, 0]), .inr (0, 8), .inr (0, 8), .inl (5, [2, 2, 0, 0, 0, 0]), .inr (0, 8), .inr (0, 8), .inl (5, [2, 2, 0, 0, 0, 0]), .inr (0, 8), .inr (0, 8), .inl (5, [2, 2, 0, 0, 0, 0]), .inr (0, 8), .inr (0, 8), .inl (5, [2, 2, 0, 0, 0, 0]), .inr (0, 8), .inr (0, 8), .inl (5, [2, 2, 0, 0, 0, 0])],
  [.inr (0, 8), .inr (0, 8), .inl (5, [2, 2, 0, 0, 0, 0]), .inr (0, 8), .inr (0, 8), .inl (5, [2, 2, 0, 0, 0, 0]), .inr (0, 8), .inr (0, 8), .inl (5, [2, 2, 0, 0, 0, 0]), .inr (0, 8), .inr (0, 8), .inl (5, [2, 2, 0, 0, 0, 0]), .inr (0, 8), .inr (0, 8), .inr (9, 2), .inr (2, 2)],
  [.inl (4, [2, 2, 2, 2, 2, 2, 2, 2, 2, 2, 2, 2, 2, 0, 1]), .inr (0, 8), .inr (0, 8), .inr (0, 8), .inr (0, 8), .inr (1, 64), .inr (1, 8), .inr (1, 256), .inr (1, 256), .inr (0, 2304), .inr (0, 256), .inr (0, 64), .inr (2, 256), .inr (0, 256), .inl (1, [2, 0]), .inr (1, 8)],
  [.inr (0, 12), .inr (0, 12), .inr (0, 12), .inl (3, [2, 2, 2, 2, 0, 0, 0, 0, 4]), .inr (0, 40), .inr (0, 40), .inr (0, 40), .inr (2, 5), .inl (5, [2, 2, 0, 0, 0, 0]), .inr (0, 8), .inr (0, 8), .inl (5, [2, 2, 0, 0, 0, 0]), .inr (0, 8), .inr (0, 8), .inl (8, [2, 0, 0, 0, 2, 2, 2, 2, 0, 2, 0, 0, 3, 0, 0, 0, 0, 2, 3, 3, 0, 4, 2, 2, 0, 2, 2, 0, 0, 2, 2, 2, 2, 2, 2, 2, 2, 2, 2, 0, 2, 2, 2, 2, 0, 0, 0, 0, 2, 2, 2]), .inr (0, 27)],
  [.inr (0, 8), .inr (0, 8), .inr (0, 8), .inr (3, 80), .inr (1, 16), .inr (0, 24), .inr (3, 40), .inr (3, 40), .inr (0, 7), .inr (0, 324), .inr (0, 27), .inr (0, 27), .inr (0, 8), .inr (0, 8), .inr (0, 240), .inr (0, 8)],
  [.inr (0, 8), .inr (0, 8), .inr (0, 8), .inr (0, 64), .inr (0, 2304), .inr (0, 2304), .inr (0, 8), .inr (2, 256), .inr (0, 12), .inr (0, 12), .inr (0, 54), .inr (2, 2), .inr (0, 2), .inr (1, 1)]]
noncomputable def xqR : zR (List Nat) := [[[1, 3, 15, 18, 21, 24, 62, 63, 64, 78, 80, 81, 82, 0, 0, 0], [2, 0], [], [4, 5, 6, 7, 8, 9, 0, 0, 0, 0, 0, 0], [], [], [], [], [], [], [11, 12, 13, 14, 0, 0, 0, 0, 0], [], [], [], [], [16, 17, 0, 0, 0, 0]],
  [[], [], [19, 20, 0, 0, 0, 0], [], [], [22, 23, 0, 0, 0, 0], [], [], [25, 0, 0], [26, 29, 32, 35, 38, 41, 44, 47, 50, 53, 56, 59], [27, 28, 0, 0, 0, 0], [], [], [30, 31, 0, 0, 0, 0], [], []],
  [[33, 34, 0, 0, 0, 0], [], [], [36, 37, 0, 0, 0, 0], [], [], [39, 40, 0, 0, 0, 0], [], [], [42, 43, 0, 0, 0, 0], [], [], [45, 46, 0, 0, 0, 0], [], [], [48, 49, 0, 0, 0, 0]],
  [[], [], [51, 52, 0, 0, 0, 0], [], [], [54, 55, 0, 0, 0, 0], [], [], [57, 58, 0, 0, 0, 0], [], [], [60, 61, 0, 0, 0, 0], [], [], [88, 91], []],
  [[65, 66, 67, 68, 69, 70, 71, 72, 73, 74, 75, 76, 77, 0, 0], [], [], [], [], [], [], [], [], [], [], [], [], [], [79, 0], []],
  [[], [], [], [84, 85, 86, 87, 0, 0, 0, 0, 0], [], [], [], [], [89, 90, 0, 0, 0, 0], [], [], [92, 93, 0, 0, 0, 0], [], [], [95, 0, 0, 0, 96, 97, 98, 99, 0, 100, 0, 0, 0, 0, 0, 0, 0, 101, 0, 0, 0, 0, 104, 105, 0, 106, 107, 0, 0, 108, 109, 110, 111, 112, 113, 114, 115, 116, 117, 0, 118, 119, 120, 121, 0, 0, 0, 0, 122, 123, 124], []],
  [[], [], [], [], [], [], [], [], [], [], [], [], [], [], [], []],
  [[], [], [], [], [], [], [], [], [], [], [], [], [], []]]
def xq_ct : List Value → Nat
  | [] => 0
  | v :: t => v.category + xq_ct t
/-! EXACT ROWS: the world's shape, values, instructions -/
noncomputable def xq_cl (k ci : Nat) : Bool := match zrget xqT k with
  | some (.inl q) => Nat.beq q.1 ci
  | _ => false
noncomputable def xq_kd (k ci j : Nat) : Option Nat := match zrget xqT k with
  | some (.inl q) => (match Nat.beq q.1 ci with
    | true => zget q.2 j
    | false => none)
  | _ => none
noncomputable def xq_ar (k : Nat) : Option (Nat × Nat) := match zrget xqT k with
  | some (.inr q) => some q
  | _ => none
noncomputable def xq_sr (k j : Nat) : Nat := match zrget xqR k with
  | some l => (match zget l j with
    | some n => n
    | none => 0)
  | none => 0
def xq_v (b : Nat → Nat) (v : Value) : Value := match v with
  | .ref k => .ref (b k)
  | v => v
noncomputable def xq_sl (b : Nat → Nat) (t : Nat) (S : xq_S) (k j : Nat) : Value := match t with
  | 0 => .int (S.1 k j)
  | 1 => .long (S.2.1 k j)
  | 2 => .ref (b (xq_sr k j))
  | 3 => if S.2.2 k j = 0 then .null else .ref (b (S.2.2 k j))
  | _ => .int (S.1 k j)
noncomputable def xq_ae (b : Nat → Nat) (S : xq_S) (k t n : Nat) (cA : ClassId) (e : va_E) : Prop := match t with
  | 0 => ∃ F : Nat → Int32, e = .inl (cA, n, .inl F) ∧ ∀ i, i < n → F i = S.1 k i
  | 1 => ∃ F : Nat → Int64, e = .inl (cA, n, .inr (.inl F)) ∧ ∀ i, i < n → F i = S.2.1 k i
  | 2 => ∃ F : Nat → Int32, e = .inl (cA, n, .inl F) ∧ ∀ i, i < n → F i = S.1 k i
  | 3 => ∃ F : Nat → Int32, e = .inl (cA, n, .inl F) ∧ ∀ i, i < n → F i = S.1 k i
  | _ + 4 => ∃ F : Nat → Option Nat, e = .inl (cA, n, .inr (.inr (.inr (.inr F)))) ∧ ∀ i, i < n → F i = some (b (xq_sr k i))
noncomputable def xq_e (b : Nat → Nat) (cl : List vw_C) (tys : List (ClassId × FieldType)) (S : xq_S) (k : Nat) (sh : xq_Sh) (e : va_E) : Prop := match sh with
  | .inl q => ∃ vs, e = .inr (q.1, vs) ∧ vs.length = q.2.length ∧ ∀ j t, q.2[j]? = some t → vs[j]? = some (xq_sl b t S k j)
  | .inr q => ∃ cA, (cA, zty cl q.1) ∈ tys ∧ xq_ae b S k q.1 q.2 cA e
noncomputable def xq_r (b : Nat → Nat) (cl : List vw_C) (tys : List (ClassId × FieldType)) (S : xq_S) (ws : va_W) : Prop := ∀ k sh, zrget xqT k = some sh → ∃ e, ws[k]? = some (b k, e) ∧ xq_e b cl tys S k sh e
noncomputable def xq_M (b : Nat → Nat) (D : va_G) (cl : List vw_C) (tys : List (ClassId × FieldType)) (z : Nat) (H0 : Heap) (S : xq_S) (ws : va_W) (H : Heap) (locs : List Loc) : Prop := xq_r b cl tys S ws ∧ va_P D cl ws H ∧ va_D (zA z) ws ∧ va_S (zA z) H0 H locs
def xq_L (b : Nat → Nat) (nL : Nat) (ls : Array Slot) (L : List Value) : Prop := ls.size = nL ∧ lv_wf ls ∧ ∀ (i : Nat) (v : Value), L[i]? = some v → v ≠ .null → ls[i]? = some (.val (xq_v b v))
theorem xq_e_cg {b : Nat → Nat} {cl : List vw_C} {tys : List (ClassId × FieldType)} {S S' : xq_S} {k : Nat} {sh : xq_Sh} {e : va_E} (h1 : S'.1 k = S.1 k) (h2 : S'.2.1 k = S.2.1 k) (h3 : S'.2.2 k = S.2.2 k) (q : xq_e b cl tys S k sh e) : xq_e b cl tys S' k sh e := by
  unfold xq_e xq_ae xq_sl at q ⊢
  rw [h1, h2, h3]
  exact q
theorem xq_r_set {b : Nat → Nat} {cl : List vw_C} {tys : List (ClassId × FieldType)} {S S' : xq_S} {ws : va_W} {k : Nat} {sh : xq_Sh} {e e' : va_E} (hr : xq_r b cl tys S ws) (he : ws[k]? = some (b k, e)) (hsh : zrget xqT k = some sh) (hn : xq_e b cl tys S' k sh e') (hS : ∀ k', k' ≠ k → S'.1 k' = S.1 k' ∧ S'.2.1 k' = S.2.1 k' ∧ S'.2.2 k' = S.2.2 k') : xq_r b cl tys S' (ws.set k (b k, e')) := by
  intro k' sh' h'
  rw [List.getElem?_set]
  by_cases hk : k = k'
  · subst hk
    rw [hsh] at h'
    cases h'
    exact ⟨e', by rw [if_pos rfl, if_pos (List.getElem?_eq_some_iff.mp he).1], hn⟩
  · obtain ⟨e0, h1, h2⟩ := hr k' sh' h'
    obtain ⟨g1, g2, g3⟩ := hS k' (fun q => hk q.symm)
    exact ⟨e0, by rw [if_neg hk]; exact h1, xq_e_cg g1 g2 g3 h2⟩
theorem xq_kd_at {k ci j t : Nat} (h : xq_kd k ci j = some t) : ∃ ks : List Nat, zrget xqT k = some (.inl (ci, ks)) ∧ ks[j]? = some t := by
  unfold xq_kd at h
  split at h
  · rename_i q hq
    split at h
    · rename_i hb
      have hb := Nat.eq_of_beq_eq_true hb
      obtain ⟨c, ks⟩ := q
      have hb : c = ci := hb
      subst hb
      rw [zget_eq] at h
      exact ⟨ks, hq, h⟩
    · cases h
  · cases h
theorem xq_ar_at {k t n : Nat} (h : xq_ar k = some (t, n)) : zrget xqT k = some (.inr (t, n)) := by
  unfold xq_ar at h
  split at h
  · rename_i q hq
    cases h
    exact hq
  · cases h
theorem xq_upd_k {α : Type} {f : Nat → Nat → α} {k j k' : Nat} {x : α} (h : k' ≠ k) : xq_upd f k j x k' = f k' := by
  funext j'
  exact xq_upd_n (fun q => h q.1)
theorem xq_slot {b : Nat → Nat} {cl : List vw_C} {tys : List (ClassId × FieldType)} {S : xq_S} {ws : va_W} (hr : xq_r b cl tys S ws) {k ci j t : Nat} (h : xq_kd k ci j = some t) : ∃ vs, ws[k]? = some (b k, .inr (ci, vs)) ∧ vs[j]? = some (xq_sl b t S k j) := by
  obtain ⟨ks, h1, h2⟩ := xq_kd_at h
  obtain ⟨e, he, vs, rfl, hl, hv⟩ := hr k _ h1
  exact ⟨vs, he, hv j t h2⟩
theorem xq_put {b : Nat → Nat} {cl : List vw_C} {tys : List (ClassId × FieldType)} {S S' : xq_S} {ws : va_W} (hr : xq_r b cl tys S ws) {k ci j t : Nat} (h : xq_kd k ci j = some t) {vs : List Value} (he : ws[k]? = some (b k, .inr (ci, vs))) {v : Value} (hv : xq_sl b t S' k j = v) (hS : ∀ k' j', ¬ (k' = k ∧ j' = j) → S'.1 k' j' = S.1 k' j' ∧ S'.2.1 k' j' = S.2.1 k' j' ∧ S'.2.2 k' j' = S.2.2 k' j') : xq_r b cl tys S' (ws.set k (b k, .inr (ci, vs.set j v))) := by
  obtain ⟨ks, h1, h2⟩ := xq_kd_at h
  obtain ⟨e, he0, vs0, rfl, hl, hv0⟩ := hr k _ h1
  rw [he] at he0
  cases he0
  refine xq_r_set hr he h1 ⟨_, rfl, by rw [List.length_set]; exact hl, fun j' t' hj' => ?_⟩ (fun k' hk => ⟨funext fun j' => (hS k' j' (fun q => hk q.1)).1, funext fun j' => (hS k' j' (fun q => hk q.1)).2.1, funext fun j' => (hS k' j' (fun q => hk q.1)).2.2⟩)
  rw [List.getElem?_set]
  by_cases hj : j = j'
  · subst hj
    have h2 : ks[j]? = some t := h2
    have hj' : ks[j]? = some t' := hj'
    rw [h2] at hj'
    cases hj'
    rw [if_pos rfl, if_pos (by rw [hl]; exact (List.getElem?_eq_some_iff.mp h2).1), hv]
  · rw [if_neg hj, hv0 j' t' hj']
    obtain ⟨g1, g2, g3⟩ := hS k j' (fun q => hj q.2.symm)
    unfold xq_sl
    rw [g1, g2, g3]
/-- arrays of ints -/
theorem xq_ari {b : Nat → Nat} {cl : List vw_C} {tys : List (ClassId × FieldType)} {S : xq_S} {ws : va_W} (hr : xq_r b cl tys S ws) {k t n : Nat} (h : xq_ar k = some (t, n)) (ht : t = 0 ∨ t = 2 ∨ t = 3) : ∃ cA F, (cA, zty cl t) ∈ tys ∧ ws[k]? = some (b k, .inl (cA, n, .inl F)) ∧ ∀ i, i < n → F i = S.1 k i := by
  obtain ⟨e, he, cA, hA, hF⟩ := hr k _ (xq_ar_at h)
  rcases ht with rfl | rfl | rfl
  · obtain ⟨F, rfl, h2⟩ := hF
    exact ⟨cA, F, hA, he, h2⟩
  · obtain ⟨F, rfl, h2⟩ := hF
    exact ⟨cA, F, hA, he, h2⟩
  · obtain ⟨F, rfl, h2⟩ := hF
    exact ⟨cA, F, hA, he, h2⟩
theorem xq_ari_set {b : Nat → Nat} {cl : List vw_C} {tys : List (ClassId × FieldType)} {S : xq_S} {ws : va_W} (hr : xq_r b cl tys S ws) {k t n : Nat} (h : xq_ar k = some (t, n)) (ht : t = 0 ∨ t = 2 ∨ t = 3) {cA : ClassId} {F F' : Nat → Int32} {f' : Nat → Nat → Int32} (hA : (cA, zty cl t) ∈ tys) (he : ws[k]? = some (b k, .inl (cA, n, .inl F))) (hF : ∀ i, i < n → F' i = f' k i) (hf : ∀ k', k' ≠ k → f' k' = S.1 k') : xq_r b cl tys (f', S.2) (ws.set k (b k, .inl (cA, n, .inl F'))) := by
  refine xq_r_set hr he (xq_ar_at h) ⟨cA, hA, ?_⟩ (fun k' hk => ⟨hf k' hk, rfl, rfl⟩)
  rcases ht with rfl | rfl | rfl
  · exact ⟨F', rfl, hF⟩
  · exact ⟨F', rfl, hF⟩
  · exact ⟨F', rfl, hF⟩
theorem xq_upd_ar {F : Nat → Int32} {f : Nat → Nat → Int32} {k n i : Nat} {x : Int32} (hF : ∀ i, i < n → F i = f k i) : ∀ j, j < n → upd F i x j = xq_upd f k i x k j := by
  intro j hj
  unfold upd xq_upd
  by_cases h : j = i
  · rw [if_pos h, if_pos ⟨rfl, h⟩]
  · rw [if_neg h, if_neg (fun q => h q.2)]
    exact hF j hj
theorem xq_in {x : Int32} {n : Nat} (h : 0 ≤ x.toInt ∧ x.toInt < (n : Int)) : vp_in x n ∧ x.toNatClampNeg = x.toInt.toNat ∧ x.toInt.toNat < n := ⟨vp_in_iff.mpr ⟨h.1, h.2⟩, rfl, by omega⟩
/-! locals -/
def xq_k2 (L : List Value) (i : Nat) : List Value := match i with
  | 0 => L
  | j + 1 => match L[j]? with
    | some v => if v.category = 2 then L.set j .null else L
    | none => L
/-! instructions -/
def xi_push (nx : Nat) (v : Value) : xq_I := fun _ L st S => some (.inl (nx, L, v :: st, S))
def xi_ldI (nx i : Nat) : xq_I := fun _ L st S => match L[i]? with
  | some (.int x) => some (.inl (nx, L, .int x :: st, S))
  | _ => none
def xi_ldL (nx i : Nat) : xq_I := fun _ L st S => match L[i]? with
  | some (.long x) => some (.inl (nx, L, .long x :: st, S))
  | _ => none
def xi_ldA (nx i : Nat) : xq_I := fun _ L st S => match L[i]? with
  | some (.ref x) => some (.inl (nx, L, .ref x :: st, S))
  | _ => none
def xi_stI (nx i : Nat) : xq_I := fun _ L st S => match st with
  | .int x :: t => some (.inl (nx, (xq_k2 L i).set i (.int x), t, S))
  | _ => none
def xi_stL (nx i : Nat) : xq_I := fun _ L st S => match st with
  | .long x :: t => some (.inl (nx, ((xq_k2 L i).set i (.long x)).set (i + 1) .null, t, S))
  | _ => none
def xi_stA (nx i : Nat) : xq_I := fun _ L st S => match st with
  | .ref x :: t => some (.inl (nx, (xq_k2 L i).set i (.ref x), t, S))
  | _ => none
def xi_inc (nx i : Nat) (n : Int32) : xq_I := fun _ L st S => match L[i]? with
  | some (.int x) => some (.inl (nx, (xq_k2 L i).set i (.int (x + n)), st, S))
  | _ => none
def xi_i1 (nx : Nat) (g : Int32 → Int32) : xq_I := fun _ L st S => match st with
  | .int x :: t => some (.inl (nx, L, .int (g x) :: t, S))
  | _ => none
def xi_i2 (nx : Nat) (g : Int32 → Int32 → Int32) : xq_I := fun _ L st S => match st with
  | .int y :: .int x :: t => some (.inl (nx, L, .int (g x y) :: t, S))
  | _ => none
def xi_i2d (nx : Nat) (g : Int32 → Int32 → Int32) : xq_I := fun _ L st S => match st with
  | .int y :: .int x :: t => if y = 0 then none else some (.inl (nx, L, .int (g x y) :: t, S))
  | _ => none
def xi_l1 (nx : Nat) (g : Int64 → Int64) : xq_I := fun _ L st S => match st with
  | .long x :: t => some (.inl (nx, L, .long (g x) :: t, S))
  | _ => none
def xi_l2 (nx : Nat) (g : Int64 → Int64 → Int64) : xq_I := fun _ L st S => match st with
  | .long y :: .long x :: t => some (.inl (nx, L, .long (g x y) :: t, S))
  | _ => none
def xi_l2d (nx : Nat) (g : Int64 → Int64 → Int64) : xq_I := fun _ L st S => match st with
  | .long y :: .long x :: t => if y = 0 then none else some (.inl (nx, L, .long (g x y) :: t, S))
  | _ => none
def xi_lsh (nx : Nat) (g : Int64 → Int32 → Int64) : xq_I := fun _ L st S => match st with
  | .int y :: .long x :: t => some (.inl (nx, L, .long (g x y) :: t, S))
  | _ => none
def xi_lcmp (nx : Nat) : xq_I := fun _ L st S => match st with
  | .long y :: .long x :: t => some (.inl (nx, L, .int (lg_cmp x y) :: t, S))
  | _ => none
def xi_i2l (nx : Nat) : xq_I := fun _ L st S => match st with
  | .int x :: t => some (.inl (nx, L, .long x.toInt64 :: t, S))
  | _ => none
def xi_l2i (nx : Nat) : xq_I := fun _ L st S => match st with
  | .long x :: t => some (.inl (nx, L, .int x.toInt32 :: t, S))
  | _ => none
def xi_goto (t : Nat) : xq_I := fun _ L st S => some (.inl (t, L, st, S))
def xi_dup (nx : Nat) : xq_I := fun _ L st S => match st with
  | .int x :: t => some (.inl (nx, L, .int x :: .int x :: t, S))
  | .ref x :: t => some (.inl (nx, L, .ref x :: .ref x :: t, S))
  | _ => none
def xi_pop (nx : Nat) : xq_I := fun _ L st S => match st with
  | .int _ :: t => some (.inl (nx, L, t, S))
  | .ref _ :: t => some (.inl (nx, L, t, S))
  | _ => none
def xi_pop2 (nx : Nat) : xq_I := fun _ L st S => match st with
  | .long _ :: t => some (.inl (nx, L, t, S))
  | _ => none
def xi_dx1 (nx : Nat) : xq_I := fun _ L st S => match st with
  | .int x :: .ref k :: t => some (.inl (nx, L, .int x :: .ref k :: .int x :: t, S))
  | _ => none
def xi_dup2 (nx : Nat) : xq_I := fun _ L st S => match st with
  | .long x :: t => some (.inl (nx, L, .long x :: .long x :: t, S))
  | .int x :: .ref k :: t => some (.inl (nx, L, .int x :: .ref k :: .int x :: .ref k :: t, S))
  | _ => none
def xi_if (P : Int32 → Prop) (d : ∀ x, Decidable (P x)) (t nx : Nat) : xq_I := fun _ L st S => match st with
  | .int x :: r => some (.inl (@ite _ (P x) (d x) (t, L, r, S) (nx, L, r, S)))
  | _ => none
def xi_ic (P : Int32 → Int32 → Prop) (d : ∀ x y, Decidable (P x y)) (t nx : Nat) : xq_I := fun _ L st S => match st with
  | .int y :: .int x :: r => some (.inl (@ite _ (P x y) (d x y) (t, L, r, S) (nx, L, r, S)))
  | _ => none
noncomputable def xi_get (nx ci j : Nat) : xq_I := fun _ L st S => match st with
  | .ref k :: t => (match xq_kd k ci j with
    | some 0 => some (.inl (nx, L, .int (S.1 k j) :: t, S))
    | some 1 => some (.inl (nx, L, .long (S.2.1 k j) :: t, S))
    | some 2 => some (.inl (nx, L, .ref (xq_sr k j) :: t, S))
    | some 3 => if S.2.2 k j = 0 then none else some (.inl (nx, L, .ref (S.2.2 k j) :: t, S))
    | some 4 => some (.inl (nx, L, .int (S.1 k j) :: t, S))
    | _ => none)
  | _ => none
noncomputable def xi_putI (nx ci j : Nat) : xq_I := fun _ L st S => match st with
  | .int x :: .ref k :: t => (match xq_kd k ci j with
    | some 0 => some (.inl (nx, L, t, (xq_upd S.1 k j x, S.2)))
    | _ => none)
  | _ => none
noncomputable def xi_putZ (nx ci j : Nat) : xq_I := fun _ L st S => match st with
  | .int x :: .ref k :: t => (match xq_kd k ci j with
    | some 4 => if x = 0 ∨ x = 1 then some (.inl (nx, L, t, (xq_upd S.1 k j x, S.2))) else none
    | _ => none)
  | _ => none
noncomputable def xi_putJ (nx ci j : Nat) : xq_I := fun _ L st S => match st with
  | .long x :: .ref k :: t => (match xq_kd k ci j with
    | some 1 => some (.inl (nx, L, t, (S.1, xq_upd S.2.1 k j x, S.2.2)))
    | _ => none)
  | _ => none
noncomputable def xi_putR (nx ci j : Nat) : xq_I := fun _ L st S => match st with
  | .ref x :: .ref k :: t => (match xq_kd k ci j with
    | some 3 => if x = 0 then none else some (.inl (nx, L, t, (S.1, S.2.1, xq_upd S.2.2 k j x)))
    | _ => none)
  | _ => none
noncomputable def xi_iald (nx : Nat) : xq_I := fun _ L st S => match st with
  | .int i :: .ref k :: t => (match xq_ar k with
    | some (0, n) => if 0 ≤ i.toInt ∧ i.toInt < (n : Int) then some (.inl (nx, L, .int (S.1 k i.toInt.toNat) :: t, S)) else none
    | _ => none)
  | _ => none
noncomputable def xi_lald (nx : Nat) : xq_I := fun _ L st S => match st with
  | .int i :: .ref k :: t => (match xq_ar k with
    | some (1, n) => if 0 ≤ i.toInt ∧ i.toInt < (n : Int) then some (.inl (nx, L, .long (S.2.1 k i.toInt.toNat) :: t, S)) else none
    | _ => none)
  | _ => none
noncomputable def xi_bald (nx : Nat) : xq_I := fun _ L st S => match st with
  | .int i :: .ref k :: t => (match xq_ar k with
    | some (2, n) => if 0 ≤ i.toInt ∧ i.toInt < (n : Int) then some (.inl (nx, L, .int (S.1 k i.toInt.toNat) :: t, S)) else none
    | some (3, n) => if 0 ≤ i.toInt ∧ i.toInt < (n : Int) then some (.inl (nx, L, .int (S.1 k i.toInt.toNat) :: t, S)) else none
    | _ => none)
  | _ => none
noncomputable def xi_aald (nx : Nat) : xq_I := fun _ L st S => match st with
  | .int i :: .ref k :: t => (match xq_ar k with
    | some (_ + 4, n) => if 0 ≤ i.toInt ∧ i.toInt < (n : Int) then some (.inl (nx, L, .ref (xq_sr k i.toInt.toNat) :: t, S)) else none
    | _ => none)
  | _ => none
noncomputable def xi_iast (nx : Nat) : xq_I := fun _ L st S => match st with
  | .int x :: .int i :: .ref k :: t => (match xq_ar k with
    | some (0, n) => if 0 ≤ i.toInt ∧ i.toInt < (n : Int) then some (.inl (nx, L, t, (xq_upd S.1 k i.toInt.toNat x, S.2))) else none
    | _ => none)
  | _ => none
noncomputable def xi_last (nx : Nat) : xq_I := fun _ L st S => match st with
  | .long x :: .int i :: .ref k :: t => (match xq_ar k with
    | some (1, n) => if 0 ≤ i.toInt ∧ i.toInt < (n : Int) then some (.inl (nx, L, t, (S.1, xq_upd S.2.1 k i.toInt.toNat x, S.2.2))) else none
    | _ => none)
  | _ => none
noncomputable def xi_bast (nx : Nat) : xq_I := fun _ L st S => match st with
  | .int x :: .int i :: .ref k :: t => (match xq_ar k with
    | some (2, n) => if 0 ≤ i.toInt ∧ i.toInt < (n : Int) then some (.inl (nx, L, t, (xq_upd S.1 k i.toInt.toNat (vp_nar .boolean x), S.2))) else none
    | some (3, n) => if 0 ≤ i.toInt ∧ i.toInt < (n : Int) then some (.inl (nx, L, t, (xq_upd S.1 k i.toInt.toNat (vp_nar .byte x), S.2))) else none
    | _ => none)
  | _ => none
noncomputable def xi_len (nx : Nat) : xq_I := fun _ L st S => match st with
  | .ref k :: t => (match xq_ar k with
    | some (_, n) => some (.inl (nx, L, .int (Int32.ofNat n) :: t, S))
    | _ => none)
  | _ => none
/-- a part of a row of ints, copied -/
def xq_cpy (f : Nat → Nat → Int32) (ks sp kd dp n : Nat) : Nat → Nat → Int32 := fun k j => if k = kd ∧ dp ≤ j ∧ j < dp + n then f ks (sp + (j - dp)) else f k j
noncomputable def xi_copy (nx : Nat) : xq_I := fun _ L st S => match st with
  | .int n :: .int dp :: .ref kd :: .int sp :: .ref ks :: t => (match xq_ar ks with
    | some (0, n0) => (match xq_ar kd with
      | some (0, n1) => (match Nat.ble (xq_ct t) 8 with
        | true => if 0 ≤ sp.toInt ∧ 0 ≤ dp.toInt ∧ 0 ≤ n.toInt ∧ sp.toInt + n.toInt ≤ (n0 : Int) ∧ dp.toInt + n.toInt ≤ (n1 : Int) then some (.inl (nx, L, t, (xq_cpy S.1 ks sp.toInt.toNat kd dp.toInt.toNat n.toInt.toNat, S.2))) else none
        | false => none)
      | _ => none)
    | _ => none)
  | _ => none
def xi_m2 (nx : Nat) (g : Int32 → Int32 → Int32) : xq_I := fun _ L st S => match st with
  | .int y :: .int x :: t => (match Nat.ble (xq_ct t) 8 with
    | true => some (.inl (nx, L, .int (g x y) :: t, S))
    | false => none)
  | _ => none
def xi_m1 (nx : Nat) (g : Int32 → Int32) : xq_I := fun _ L st S => match st with
  | .int x :: t => (match Nat.ble (xq_ct t) 8 with
    | true => some (.inl (nx, L, .int (g x) :: t, S))
    | false => none)
  | _ => none
def xq_tb (x lo : Int) : List Nat → Nat → Nat
  | [], d => d
  | t :: ts, d => if x = lo then t else xq_tb x (lo + 1) ts d
def xi_tab (lo : Int) (ts : List Nat) (d : Nat) : xq_I := fun _ L st S => match st with
  | .int x :: r => some (.inl (xq_tb x.toInt lo ts d, L, r, S))
  | _ => none
def xq_lk (x : Int) : List (Int × Nat) → Nat → Nat
  | [], d => d
  | (v, t) :: ts, d => if x = v then t else xq_lk x ts d
def xi_lsw (ts : List (Int × Nat)) (d : Nat) : xq_I := fun _ L st S => match st with
  | .int x :: r => some (.inl (xq_lk x.toInt ts d, L, r, S))
  | _ => none
def xi_rt0 : xq_I := fun _ _ st S => match st with
  | [] => some (.inr (none, S))
  | _ => none
def xi_rtI : xq_I := fun _ _ st S => match st with
  | [.int x] => some (.inr (some (.int x), S))
  | _ => none
def xi_rtZ : xq_I := fun _ _ st S => match st with
  | [.int x] => if x = 0 ∨ x = 1 then some (.inr (some (.int x), S)) else none
  | _ => none
def xi_rtJ : xq_I := fun _ _ st S => match st with
  | [.long x] => some (.inr (some (.long x), S))
  | _ => none
/-- n values off the stack, the deepest first -/
def xq_pp : Nat → List Value → List Value → Option (List Value × List Value)
  | 0, acc, st => some (acc, st)
  | n + 1, acc, a :: st => xq_pp n (a :: acc) st
  | _ + 1, _, [] => none
/-- a receiver of the class ci (or, ci none: no receiver) -/
noncomputable def xq_rc (ci : Option Nat) (as : List Value) : Bool := match ci with
  | none => true
  | some c => (match as with
    | .ref k :: _ => xq_cl k c
    | _ => false)
noncomputable def xi_cI (nx mi n : Nat) (ci : Option Nat) : xq_I := fun call L st S => match xq_pp n [] st with
  | some (as, rest) => (match Nat.ble (xq_ct rest) 8 && xq_rc ci as with
    | true => xq_bI (call mi as S) (fun x S' => some (.inl (nx, L, .int x :: rest, S')))
    | false => none)
  | none => none
noncomputable def xi_cJ (nx mi n : Nat) (ci : Option Nat) : xq_I := fun call L st S => match xq_pp n [] st with
  | some (as, rest) => (match Nat.ble (xq_ct rest) 8 && xq_rc ci as with
    | true => xq_bJ (call mi as S) (fun x S' => some (.inl (nx, L, .long x :: rest, S')))
    | false => none)
  | none => none
noncomputable def xi_cV (nx mi n : Nat) (ci : Option Nat) : xq_I := fun call L st S => match xq_pp n [] st with
  | some (as, rest) => (match Nat.ble (xq_ct rest) 8 && xq_rc ci as with
    | true => xq_bV (call mi as S) (fun S' => some (.inl (nx, L, rest, S')))
    | false => none)
  | none => none
/-- dead locals are dropped -/
def xq_dr (ks : List Nat) (L : List Value) : List Value := match ks with
  | [] => L
  | k :: t => xq_dr t (L.set k .null)
def xi_dr (ks : List Nat) (sem : xq_I) : xq_I := fun call L st S => match sem call L st S with
  | some (.inl (pc, L', st', S')) => some (.inl (pc, xq_dr ks L', st', S'))
  | x => x
def xi_ic_lt (t nx : Nat) : xq_I := xi_ic (fun x y => x < y) (fun x y => inferInstance) t nx
def xi_if_lt (t nx : Nat) : xq_I := xi_if (fun x => x < 0) (fun x => inferInstance) t nx
def xi_ic_ge (t nx : Nat) : xq_I := xi_ic (fun x y => y ≤ x) (fun x y => inferInstance) t nx
def xi_if_ge (t nx : Nat) : xq_I := xi_if (fun x => 0 ≤ x) (fun x => inferInstance) t nx
def xi_ic_gt (t nx : Nat) : xq_I := xi_ic (fun x y => y < x) (fun x y => inferInstance) t nx
def xi_if_gt (t nx : Nat) : xq_I := xi_if (fun x => 0 < x) (fun x => inferInstance) t nx
def xi_ic_le (t nx : Nat) : xq_I := xi_ic (fun x y => x ≤ y) (fun x y => inferInstance) t nx
def xi_if_le (t nx : Nat) : xq_I := xi_if (fun x => x ≤ 0) (fun x => inferInstance) t nx
def xi_ic_eq (t nx : Nat) : xq_I := xi_ic (fun x y => x = y) (fun x y => inferInstance) t nx
def xi_if_eq (t nx : Nat) : xq_I := xi_if (fun x => x = 0) (fun x => inferInstance) t nx
def xi_ic_ne (t nx : Nat) : xq_I := xi_ic (fun x y => ¬ x = y) (fun x y => inferInstance) t nx
def xi_if_ne (t nx : Nat) : xq_I := xi_if (fun x => ¬ x = 0) (fun x => inferInstance) t nx
def xi_iadd (nx : Nat) : xq_I := xi_i2 nx (fun x y => x + y)
def xi_isub (nx : Nat) : xq_I := xi_i2 nx (fun x y => x - y)
def xi_imul (nx : Nat) : xq_I := xi_i2 nx (fun x y => x * y)
def xi_iand (nx : Nat) : xq_I := xi_i2 nx (fun x y => x &&& y)
def xi_ior (nx : Nat) : xq_I := xi_i2 nx (fun x y => x ||| y)
def xi_ixor (nx : Nat) : xq_I := xi_i2 nx (fun x y => x ^^^ y)
def xi_ishl (nx : Nat) : xq_I := xi_i2 nx (fun x y => x <<< (y &&& 31))
def xi_ishr (nx : Nat) : xq_I := xi_i2 nx (fun x y => x >>> (y &&& 31))
def xi_iushr (nx : Nat) : xq_I := xi_i2 nx (fun x y => (x.toUInt32 >>> (y.toUInt32 &&& Int32.toUInt32 31)).toInt32)
def xi_idiv (nx : Nat) : xq_I := xi_i2d nx (fun x y => x / y)
def xi_irem (nx : Nat) : xq_I := xi_i2d nx (fun x y => x - x / y * y)
def xi_ineg (nx : Nat) : xq_I := xi_i1 nx (fun x => -x)
def xi_i2b (nx : Nat) : xq_I := xi_i1 nx (fun x => x.toInt8.toInt32)
def xi_i2s (nx : Nat) : xq_I := xi_i1 nx (fun x => x.toInt16.toInt32)
def xi_i2c (nx : Nat) : xq_I := xi_i1 nx (fun x => (x.toUInt32 % 65536).toInt32)
def xi_ladd (nx : Nat) : xq_I := xi_l2 nx (fun x y => x + y)
def xi_lmul (nx : Nat) : xq_I := xi_l2 nx (fun x y => x * y)
def xi_land (nx : Nat) : xq_I := xi_l2 nx (fun x y => x &&& y)
def xi_ldiv (nx : Nat) : xq_I := xi_l2d nx (fun x y => x / y)
def xi_lrem (nx : Nat) : xq_I := xi_l2d nx (fun x y => x - x / y * y)
def xi_lneg (nx : Nat) : xq_I := xi_l1 nx (fun x => -x)
def xi_lshl (nx : Nat) : xq_I := xi_lsh nx (fun x y => x <<< (y.toInt64 &&& 63))
def xi_lshr (nx : Nat) : xq_I := xi_lsh nx (fun x y => x >>> (y.toInt64 &&& 63))
def xi_max (nx : Nat) : xq_I := xi_m2 nx (fun x y => if x < y then y else x)
def xi_min (nx : Nat) : xq_I := xi_m2 nx (fun x y => if y < x then y else x)
def xi_abs (nx : Nat) : xq_I := xi_m1 nx (fun x => if 0 ≤ x then x else 0 - x)
