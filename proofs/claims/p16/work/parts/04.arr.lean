/-! ARRAYS WITH AN INDEX IN BOUNDS: a load is the hull, a store must fit into all that it may hit -/
def zvle (a b : zAV) : Bool := match a with
  | .inl q => (match b with
    | .inl p => zle p.1.1 q.1.1 && zle q.1.2 p.1.2
    | _ => false)
  | .inr (.inl q) => (match b with
    | .inr (.inl p) => zle p.1 q.1 && zle q.2 p.2
    | _ => false)
  | .inr (.inr (.inl k)) => (match b with
    | .inr (.inr (.inl j)) => Nat.beq k j
    | _ => false)
  | _ => false
theorem zvle_ok {o : zO} {ad : Nat → Option Nat} {a b : zAV} {v : Value} (h : zvle a b = true) (hg : zgH o ad a v) : zgH o ad b v := by
  unfold zvle at h
  split at h
  · split at h
    · simp only [Bool.and_eq_true, zle_iff] at h
      obtain ⟨x, rfl, h1, h2⟩ := hg
      exact ⟨x, rfl, by omega, by omega⟩
    · cases h
  · split at h
    · simp only [Bool.and_eq_true, zle_iff] at h
      obtain ⟨x, rfl, h1, h2⟩ := hg
      exact ⟨x, rfl, by omega, by omega⟩
    · cases h
  · split at h
    · have e := Nat.eq_of_beq_eq_true h
      subst e
      exact hg
    · cases h
  · cases h
def zmn (a b : Int) : Int := if zle a b then a else b
def zmx (a b : Int) : Int := if zle a b then b else a
theorem zmn_l (a b : Int) : zmn a b ≤ a ∧ zmn a b ≤ b := by
  unfold zmn
  split
  · rename_i h; rw [zle_iff] at h; omega
  · rename_i h
    rw [zle_iff] at h
    omega
theorem zmx_l (a b : Int) : a ≤ zmx a b ∧ b ≤ zmx a b := by
  unfold zmx
  split
  · rename_i h; rw [zle_iff] at h; omega
  · rename_i h
    rw [zle_iff] at h
    omega
def zjoin (a b : zAV) : Option zAV := match a with
  | .inl q => (match b with
    | .inl p => some (.inl ((zmn q.1.1 p.1.1, zmx q.1.2 p.1.2), none))
    | _ => none)
  | .inr (.inl q) => (match b with
    | .inr (.inl p) => some (.inr (.inl (zmn q.1 p.1, zmx q.2 p.2)))
    | _ => none)
  | .inr (.inr (.inl k)) => (match b with
    | .inr (.inr (.inl j)) => if Nat.beq k j then some (.inr (.inr (.inl k))) else none
    | _ => none)
  | _ => none
theorem zjoin_ok {o : zO} {ad : Nat → Option Nat} {a b c : zAV} {v : Value} (h : zjoin a b = some c) (hg : zgH o ad a v ∨ zgH o ad b v) : zgH o ad c v := by
  unfold zjoin at h
  split at h
  · rename_i q
    split at h
    · rename_i p
      cases h
      have m1 := zmn_l q.1.1 p.1.1
      have m2 := zmx_l q.1.2 p.1.2
      rcases hg with ⟨x, rfl, h1, h2⟩ | ⟨x, rfl, h1, h2⟩
      · exact ⟨x, rfl, Int.le_trans m1.1 h1, Int.le_trans h2 m2.1⟩
      · exact ⟨x, rfl, Int.le_trans m1.2 h1, Int.le_trans h2 m2.2⟩
    · cases h
  · rename_i q
    split at h
    · rename_i p
      cases h
      have m1 := zmn_l q.1 p.1
      have m2 := zmx_l q.2 p.2
      rcases hg with ⟨x, rfl, h1, h2⟩ | ⟨x, rfl, h1, h2⟩
      · exact ⟨x, rfl, Int.le_trans m1.1 h1, Int.le_trans h2 m2.1⟩
      · exact ⟨x, rfl, Int.le_trans m1.2 h1, Int.le_trans h2 m2.2⟩
    · cases h
  · split at h
    · split at h
      · rename_i hb
        have e := Nat.eq_of_beq_eq_true hb
        cases h
        rcases hg with hg | hg
        · exact hg
        · rw [e]; exact hg
      · cases h
    · cases h
  · cases h
noncomputable def zfoldj (r : zR zAV) (lo n : Nat) : Option zAV := Nat.rec (motive := fun _ => Option zAV) (zrget r lo) (fun k ih => match ih with
  | some a => (match zrget r (lo + k + 1) with
    | some b => zjoin a b
    | none => none)
  | none => none) n
theorem zfoldj_ok {o : zO} {ad : Nat → Option Nat} {r : zR zAV} {lo : Nat} : ∀ {n : Nat} {a : zAV}, zfoldj r lo n = some a → ∀ {i : Nat} {b : zAV} {v : Value}, lo ≤ i → i ≤ lo + n → zrget r i = some b → zgH o ad b v → zgH o ad a v
  | 0, a, h, i, b, v, h1, h2, hb, hg => by
    have e : i = lo := by omega
    subst e
    have h : zrget r i = some a := h
    rw [hb] at h
    cases h
    exact hg
  | n + 1, a, h, i, b, v, h1, h2, hb, hg => by
    have h : (match zfoldj r lo n with
      | some a => (match zrget r (lo + n + 1) with
        | some b => zjoin a b
        | none => none)
      | none => none) = some a := h
    split at h
    · rename_i a1 ha1
      split at h
      · rename_i b1 hb1
        by_cases e : i = lo + n + 1
        · subst e
          rw [hb] at hb1
          cases hb1
          exact zjoin_ok h (Or.inr hg)
        · exact zjoin_ok h (Or.inl (zfoldj_ok ha1 h1 (by omega) hb hg))
      · cases h
    · cases h
def zuni (r : zR zAV) : Bool := match r with
  | [] :: (_ :: _) :: _ => true
  | _ => false
theorem zaget_n {r : zR zAV} (h : zuni r = false) (i : Nat) : zaget r i = zrget r i := by
  unfold zaget
  split
  · cases h
  · rfl
noncomputable def zload (r : zR zAV) (lo hi : Nat) : Option zAV := match zuni r with
  | true => zaget r lo
  | false => zfoldj r lo (hi - lo)
theorem zaget_u {r : zR zAV} (h : zuni r = true) (i j : Nat) : zaget r i = zaget r j := by
  unfold zuni at h
  split at h
  · rfl
  · cases h
theorem zload_ok {o : zO} {ad : Nat → Option Nat} {r : zR zAV} {lo hi i : Nat} {a b : zAV} {v : Value} (h : zload r lo hi = some a) (h1 : lo ≤ i) (h2 : i ≤ hi) (hb : zaget r i = some b) (hg : zgH o ad b v) : zgH o ad a v := by
  unfold zload at h
  split at h
  · rename_i hu
    rw [zaget_u hu lo i, hb] at h
    cases h
    exact hg
  · rename_i hu
    rw [zaget_n hu] at hb
    exact zfoldj_ok h h1 (by omega) hb hg
noncomputable def zallj (a : zAV) (r : zR zAV) (lo n : Nat) : Bool := Nat.rec (motive := fun _ => Bool) (match zrget r lo with
  | some b => zvle a b
  | none => false) (fun k ih => match ih with
  | true => (match zrget r (lo + k + 1) with
    | some b => zvle a b
    | none => false)
  | false => false) n
theorem zallj_ok {a : zAV} {r : zR zAV} {lo : Nat} : ∀ {n : Nat}, zallj a r lo n = true → ∀ {i : Nat} {b : zAV}, lo ≤ i → i ≤ lo + n → zrget r i = some b → zvle a b = true
  | 0, h, i, b, h1, h2, hb => by
    have e : i = lo := by omega
    subst e
    have h : (match zrget r i with
      | some b => zvle a b
      | none => false) = true := h
    rw [hb] at h
    exact h
  | n + 1, h, i, b, h1, h2, hb => by
    have h : (match zallj a r lo n with
      | true => (match zrget r (lo + n + 1) with
        | some b => zvle a b
        | none => false)
      | false => false) = true := h
    split at h
    · rename_i ha
      by_cases e : i = lo + n + 1
      · subst e
        rw [hb] at h
        exact h
      · exact zallj_ok ha h1 (by omega) hb
    · cases h
noncomputable def zstore (r : zR zAV) (lo hi : Nat) (a : zAV) : Option (zR zAV) := match zuni r with
  | true => (match zaget r lo with
    | some e => if zvle a e then some r else none
    | none => none)
  | false => if Nat.beq lo hi then some (zrset r lo a) else if zallj a r lo (hi - lo) then some r else none
theorem zset_len {α : Type} (l : List α) (x : α) (n : Nat) : (zset l x n).length = l.length := by
  rw [zset_eq, List.length_set]
theorem zuni_set {r : zR zAV} {i : Nat} {a : zAV} (h : zuni r = false) : zuni (zrset r i a) = false := by
  unfold zrset
  split
  · exact h
  · rename_i c hc
    rw [zget_eq] at hc
    rw [zset_eq]
    have hl : (zset c a (i % 16)).length = c.length := zset_len _ _ _
    cases r with
    | nil => simp at hc
    | cons x t =>
      cases hi : i / 16 with
      | zero =>
        rw [hi] at hc
        have e : x = c := by simpa using hc
        subst e
        show zuni (zset x a (i % 16) :: t) = false
        cases x with
        | nil => exact h
        | cons y l =>
          cases hz : zset (y :: l) a (i % 16) with
          | nil => rw [hz] at hl; simp at hl
          | cons y' l' => rfl
      | succ n =>
        rw [hi] at hc
        show zuni (x :: t.set n (zset c a (i % 16))) = false
        cases x with
        | cons y l => rfl
        | nil =>
          cases t with
          | nil => rfl
          | cons y t' =>
            cases y with
            | cons w l => cases h
            | nil =>
              cases n with
              | zero =>
                have e : ([] : List zAV) = c := by simpa using hc
                subst e
                rfl
              | succ n => rfl
theorem zstore_ok {o : zO} {ad : Nat → Option Nat} {r r' : zR zAV} {lo hi n x : Nat} {a : zAV} {v : Value} {g : Nat → Value} (h : zstore r lo hi a = some r') (h1 : lo ≤ x) (h2 : x ≤ hi) (h3 : x < n) (hg : ∀ i, i < n → ∃ b, zaget r i = some b ∧ zgH o ad b (g i)) (hv : zgH o ad a v) : ∀ i, i < n → ∃ b, zaget r' i = some b ∧ zgH o ad b (if i = x then v else g i) := by
  unfold zstore at h
  split at h
  · rename_i hu
    split at h
    · rename_i e he
      split at h
      · rename_i hle
        cases h
        intro i hi
        obtain ⟨b, g1, g2⟩ := hg i hi
        refine ⟨b, g1, ?_⟩
        by_cases ex : i = x
        · rw [if_pos ex]
          rw [zaget_u hu i lo, he] at g1
          cases g1
          exact zvle_ok hle hv
        · rw [if_neg ex]
          exact g2
      · cases h
    · cases h
  · rename_i hu
    split at h
    · rename_i hlh
      have e := Nat.eq_of_beq_eq_true hlh
      cases h
      have ex : x = lo := by omega
      subst ex
      intro i hi
      rw [zaget_n (zuni_set hu)]
      obtain ⟨b0, q0, -⟩ := hg x h3
      rw [zaget_n hu] at q0
      rw [zrget_set q0]
      by_cases ei : i = x
      · rw [if_pos ei, if_pos ei]
        exact ⟨a, rfl, hv⟩
      · rw [if_neg ei, if_neg ei]
        obtain ⟨b, g1, g2⟩ := hg i hi
        rw [zaget_n hu] at g1
        exact ⟨b, g1, g2⟩
    · split at h
      · rename_i hall
        cases h
        intro i hi
        obtain ⟨b, g1, g2⟩ := hg i hi
        refine ⟨b, g1, ?_⟩
        by_cases ei : i = x
        · rw [if_pos ei]
          rw [zaget_n hu] at g1
          exact zvle_ok (zallj_ok hall (by omega) (by omega) g1) hv
        · rw [if_neg ei]
          exact g2
      · cases h
/-- an index in bounds -/
theorem zixI {i : zI} {x : Int32} {n : Nat} (hx : zmi i x) (h2 : zle 0 i.1 = true) (h3 : zle (i.2 + 1) (Int.ofNat n) = true) : vp_in x n ∧ i.1.toNat ≤ x.toNatClampNeg ∧ x.toNatClampNeg ≤ i.2.toNat ∧ x.toNatClampNeg < n := by
  rw [zle_iff] at h2 h3
  obtain ⟨g1, g2⟩ := hx
  have h3 : i.2 + 1 ≤ (n : Int) := h3
  have e : x.toNatClampNeg = x.toInt.toNat := rfl
  refine ⟨vp_in_iff.mpr ⟨by omega, by omega⟩, by rw [e]; omega, by rw [e]; omega, by rw [e]; omega⟩
