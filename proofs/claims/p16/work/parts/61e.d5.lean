/-! HELD ROTAS: the least of all (the class) -/
def yd_Pt (ok : Nat → Nat → Prop) : Nat → Nat → (Nat → Nat) → Prop
  | 0, t, _ => t = 0
  | k + 1, t, o => ok k (o k) ∧ o k &&& t = o k ∧ yd_Pt ok k (t ^^^ o k) o
def yd_Ws (w : Nat → Nat → Int) : Nat → (Nat → Nat) → Int
  | 0, _ => 0
  | k + 1, o => yd_Ws w k o + w k (o k)
theorem yd_Pt_cg {ok : Nat → Nat → Prop} {o o' : Nat → Nat} : ∀ {k t : Nat}, (∀ r, r < k → o' r = o r) → yd_Pt ok k t o → yd_Pt ok k t o'
  | 0, _, _, h => h
  | k + 1, t, h, ⟨h1, h2, h3⟩ => by
    have e := h k (by omega)
    show ok k (o' k) ∧ o' k &&& t = o' k ∧ yd_Pt ok k (t ^^^ o' k) o'
    rw [e]
    exact ⟨h1, h2, yd_Pt_cg (fun r hr => h r (by omega)) h3⟩
theorem yd_Ws_cg {w : Nat → Nat → Int} {o o' : Nat → Nat} : ∀ {k : Nat}, (∀ r, r < k → o' r = o r) → yd_Ws w k o' = yd_Ws w k o
  | 0, _ => rfl
  | k + 1, h => by
    show yd_Ws w k o' + w k (o' k) = yd_Ws w k o + w k (o k)
    rw [yd_Ws_cg (fun r hr => h r (by omega)), h k (by omega)]
/-- what the riders so far make of each set -/
def yd_B (ok : Nat → Nat → Prop) (w : Nat → Nat → Int) (k full : Nat) (B : Nat → Int) : Prop := ∀ t, t ≤ full → (0 ≤ B t ∧ B t ≤ yd_NO) ∧ (B t < yd_NO → ∃ o, yd_Pt ok k t o ∧ B t = yd_Ws w k o) ∧ ∀ o, yd_Pt ok k t o → B t ≤ yd_Ws w k o
theorem yd_B0 {ok : Nat → Nat → Prop} {w : Nat → Nat → Int} {full : Nat} {B : Nat → Int} (h0 : B 0 = 0) (h1 : ∀ t, 0 < t → t ≤ full → B t = yd_NO) : yd_B ok w 0 full B := by
  intro t ht
  have hNO : yd_NO = 1152921504606846976 := rfl
  by_cases e : t = 0
  · subst e
    exact ⟨by omega, fun _ => ⟨fun _ => 0, rfl, h0⟩, fun o _ => by show B 0 ≤ 0; omega⟩
  · have := h1 t (by omega) ht
    exact ⟨by omega, fun z => by omega, fun o ho => absurd ho e⟩
def yd_okc (may : Nat → Nat) (cap : Nat → Int) (lim : Int) (fl : Nat → Int) (f : Nat → Nat → Int) (r x : Nat) : Prop := x &&& may r = x ∧ (yd_pc x : Int) ≤ cap r ∧ yd_w (fl r) (f r) x ≤ lim
def yd_wc (fl : Nat → Int) (f : Nat → Nat → Int) (r x : Nat) : Int := yd_w (fl r) (f r) x
theorem yd_w0 {fl : Int} {f : Nat → Int} {s : Nat} (hfl : 0 ≤ fl) (hf : ∀ h, h < 8 → 0 ≤ f h ∧ f h ≤ 68719476736) : 0 ≤ yd_w fl f s := by
  unfold yd_w
  have := yd_S_r (s := s) (n := 8) hf
  split <;> omega
theorem yd_Bs {may : Nat → Nat} {cap : Nat → Int} {lim : Int} {fl : Nat → Int} {f : Nat → Nat → Int} {k full : Nat} {B B' Wt : Nat → Int} (hc : 0 ≤ cap k) (hlim : 0 ≤ lim ∧ lim < yd_NO) (hfl : 0 ≤ fl k) (hf : ∀ h, h < 8 → 0 ≤ f k h ∧ f k h ≤ 68719476736) (hB : yd_B (yd_okc may cap lim fl f) (yd_wc fl f) k full B) (hW : ∀ own, own ≤ full → own &&& may k = own → Wt own = yd_wt (cap k) lim (fl k) (f k) own) (h0 : B' 0 = B 0) (h1 : ∀ x, x ≤ full → 0 < x → yd_min (fun y => B (x ^^^ y) + Wt y) (x &&& may k) (x &&& may k) (B x) (B' x)) : yd_B (yd_okc may cap lim fl f) (yd_wc fl f) (k + 1) full B' := by
  have hNO : yd_NO = 1152921504606846976 := rfl
  have w00 : yd_w (fl k) (f k) 0 = 0 := rfl
  have ok0 : yd_okc may cap lim fl f k 0 := ⟨Nat.zero_and _, by show ((yd_pc 0 : Nat) : Int) ≤ cap k; rw [show yd_pc 0 = 0 by decide]; exact hc, by rw [w00]; exact hlim.1⟩
  have ext0 : ∀ t o, yd_Pt (yd_okc may cap lim fl f) k t o → yd_Pt (yd_okc may cap lim fl f) (k + 1) t (fun r => if r = k then 0 else o r) ∧ yd_Ws (yd_wc fl f) (k + 1) (fun r => if r = k then 0 else o r) = yd_Ws (yd_wc fl f) k o := by
    intro t o h
    refine ⟨?_, ?_⟩
    · show yd_okc may cap lim fl f k (if k = k then 0 else o k) ∧ (if k = k then 0 else o k) &&& t = (if k = k then 0 else o k) ∧ yd_Pt (yd_okc may cap lim fl f) k (t ^^^ (if k = k then 0 else o k)) (fun r => if r = k then 0 else o r)
      rw [if_pos rfl, Nat.xor_zero]
      exact ⟨ok0, Nat.zero_and _, yd_Pt_cg (fun r hr => if_neg (by omega)) h⟩
    · show yd_Ws (yd_wc fl f) k _ + yd_w (fl k) (f k) (if k = k then 0 else o k) = _
      rw [if_pos rfl, w00, yd_Ws_cg (o := o) (fun r hr => if_neg (by omega))]
      omega
  intro t ht
  by_cases e : t = 0
  · subst e
    obtain ⟨b1, b2, b3⟩ := hB 0 ht
    rw [h0]
    refine ⟨b1, fun z => ?_, fun o ho => ?_⟩
    · obtain ⟨o, g1, g2⟩ := b2 z
      obtain ⟨g3, g4⟩ := ext0 0 o g1
      exact ⟨_, g3, by rw [g4]; exact g2⟩
    · obtain ⟨g1, g2, g3⟩ := ho
      rw [Nat.and_zero] at g2
      rw [← g2, Nat.xor_zero] at g3
      have := b3 o g3
      show B 0 ≤ yd_Ws (yd_wc fl f) k o + yd_w (fl k) (f k) (o k)
      rw [← g2, w00]
      omega
  · obtain ⟨b1, b2, b3⟩ := hB t ht
    obtain ⟨m1, m2, m3⟩ := h1 t ht (by omega)
    have hsub : ∀ own, own &&& (t &&& may k) = own → own &&& t = own ∧ own &&& may k = own := fun own ho => ⟨yd_ss.mpr (fun i hi => by
      have := yd_ss.mp ho i hi
      rw [Nat.testBit_and] at this
      simp only [Bool.and_eq_true] at this
      exact this.1), yd_ss.mpr (fun i hi => by
      have := yd_ss.mp ho i hi
      rw [Nat.testBit_and] at this
      simp only [Bool.and_eq_true] at this
      exact this.2)⟩
    have hwt : ∀ own, 0 ≤ yd_wt (cap k) lim (fl k) (f k) own := fun own => by
      unfold yd_wt
      have := yd_w0 (s := own) hfl hf
      split <;> omega
    refine ⟨?_, fun z => ?_, fun o ho => ?_⟩
    · refine ⟨?_, by omega⟩
      rcases m3 with q | ⟨own, q1, q2, q3, q4⟩
      · omega
      · obtain ⟨s1, s2⟩ := hsub own q1
        have hx := yd_xlt s1
        have hol := yd_le s1
        have := (hB (t ^^^ own) (by omega)).1
        have q4 : B' t = B (t ^^^ own) + Wt own := q4
        rw [hW own (by omega) s2] at q4
        have := hwt own
        omega
    · rcases m3 with q | ⟨own, q1, q2, q3, q4⟩
      · obtain ⟨o, g1, g2⟩ := b2 (by omega)
        obtain ⟨g3, g4⟩ := ext0 t o g1
        exact ⟨_, g3, by rw [g4, ← g2]; exact q⟩
      · obtain ⟨s1, s2⟩ := hsub own q1
        have hx := yd_xlt s1
        have hol := yd_le s1
        obtain ⟨c1, c2, c3⟩ := hB (t ^^^ own) (by omega)
        have q4 : B' t = B (t ^^^ own) + Wt own := q4
        rw [hW own (by omega) s2] at q4
        have hp := hwt own
        obtain ⟨o, g1, g2⟩ := c2 (by omega)
        have hwn : (yd_pc own : Int) ≤ cap k ∧ yd_w (fl k) (f k) own ≤ lim := by
          refine Decidable.byContradiction fun z2 => ?_
          have : yd_wt (cap k) lim (fl k) (f k) own = yd_NO := if_neg z2
          omega
        have hwe : yd_wt (cap k) lim (fl k) (f k) own = yd_w (fl k) (f k) own := if_pos hwn
        refine ⟨fun r => if r = k then own else o r, ?_, ?_⟩
        · show yd_okc may cap lim fl f k (if k = k then own else o k) ∧ (if k = k then own else o k) &&& t = (if k = k then own else o k) ∧ yd_Pt (yd_okc may cap lim fl f) k (t ^^^ (if k = k then own else o k)) (fun r => if r = k then own else o r)
          rw [if_pos rfl]
          exact ⟨⟨s2, hwn.1, hwn.2⟩, s1, yd_Pt_cg (fun r hr => if_neg (by omega)) g1⟩
        · show B' t = yd_Ws (yd_wc fl f) k _ + yd_w (fl k) (f k) (if k = k then own else o k)
          rw [if_pos rfl, yd_Ws_cg (o := o) (fun r hr => if_neg (by omega)), q4, hwe, g2]
    · obtain ⟨⟨g1, g2, g3⟩, g4, g5⟩ := ho
      show B' t ≤ yd_Ws (yd_wc fl f) k o + yd_w (fl k) (f k) (o k)
      by_cases z : o k = 0
      · rw [z, Nat.xor_zero] at g5
        have := b3 o g5
        rw [z, w00]
        omega
      · have hs : o k &&& (t &&& may k) = o k := yd_ss.mpr (fun i hi => by
          rw [Nat.testBit_and, yd_ss.mp g4 i hi, yd_ss.mp g1 i hi]
          rfl)
        have hx := yd_xlt g4
        have hol := yd_le g4
        have h2 := m2 (o k) hs (by omega) (yd_le hs)
        have h2 : B' t ≤ B (t ^^^ o k) + Wt (o k) := h2
        rw [hW (o k) (by omega) g1] at h2
        have hwe : yd_wt (cap k) lim (fl k) (f k) (o k) = yd_w (fl k) (f k) (o k) := if_pos ⟨g2, g3⟩
        have := (hB (t ^^^ o k) (by omega)).2.2 o g5
        omega
section YDE
variable {d full : Nat} {I : Nat → Nat → Int32} {R : Nat → Nat → Nat} {may : Nat → Nat} {cap : Nat → Int} {lim : Int} {fl : Nat → Int} {f : Nat → Nat → Int}
theorem yd_leastl (hfull : full < 256) (i13 : I 64 13 = Int32.ofNat full) (i67 : ∀ r, r < 8 → I 67 r = Int32.ofNat r) (i68 : ∀ r, r < 8 → I 68 r = 0) (i65 : ∀ r, r < 8 → I 65 r = Int32.ofNat (may r) ∧ may r < 256) (i66 : ∀ r, r < 8 → (I 66 r).toInt = cap r ∧ 0 ≤ cap r) (hlim : 0 ≤ lim ∧ lim < yd_NO) (hfl : ∀ r, r < 8 → 0 ≤ fl r ∧ fl r ≤ 68719476736) (hf : ∀ r, r < 8 → ∀ h, h < 8 → 0 ≤ f r h ∧ f r h ≤ 68719476736) : ∀ (m k : Nat) (J : Nat → Nat → Int64), k + m = 8 → (∀ r, r < 8 → ∀ h, h < 8 → (J 69 (8 * r + h)).toInt = f r h) → (∀ r, r < 8 → (J 70 r).toInt = fl r) → (J 64 14).toInt = lim → yd_B (yd_okc may cap lim fl f) (yd_wc fl f) k full (fun t => (J 72 t).toInt) → ∃ v J', qX4_least_h19 (d + 4) (Int32.ofNat k) (I, J, R) = some (some (.long v), I, J', R) ∧ (∀ k j, ¬ k = 71 → ¬ k = 72 → J' k j = J k j) ∧ yd_B (yd_okc may cap lim fl f) (yd_wc fl f) 8 full (fun t => (J' 72 t).toInt) ∧ v = J' 72 full
  | 0, k, J, hk, j69, j70, j64, hB => by
    obtain rfl : k = 8 := by omega
    have c1 := xt_nat (n := full) (by omega)
    have c2 : (Int32.ofNat full).toInt.toNat = full := by omega
    have hI : (I, J, R).1 64 13 = Int32.ofNat full := i13
    rw [qX4_least_h19_eq, if_pos (by decide), hI, c2, c1, if_pos (by omega)]
    exact ⟨J 72 full, J, rfl, fun _ _ _ _ => rfl, hB, rfl⟩
  | m + 1, k, J, hk, j69, j70, j64, hB => by
    have hk8 : k < 8 := by omega
    have b1 := xt_nat (n := k) (by omega)
    have b2 : (Int32.ofNat k).toInt.toNat = k := by omega
    have a1 : Int32.ofNat k + (1 : Int32) = Int32.ofNat (k + 1) := (Int32.ofNat_add k 1).symm
    have h8 : ¬ (8 : Int32) ≤ Int32.ofNat k := fun z => by
      have := (xr_le (a := 8) (by omega) (by omega)).mp z
      omega
    have hNO : yd_NO = 1152921504606846976 := rfl
    obtain ⟨J1, x1, x2, x3⟩ := yd_weigh (d := d + 1) (R := R) (J := J) hk8 hfull (i65 k hk8).2 i13 (i65 k hk8).1 (i66 k hk8).1 hlim (hfl k hk8) (hf k hk8) (i66 k hk8).2 (j69 k hk8) (j70 k hk8) j64
    have hwt : ∀ own, own ≤ full → own &&& may k = own → 0 ≤ (J1 71 own).toInt ∧ (J1 71 own).toInt ≤ yd_NO := fun own h1 h2 => by
      rw [x3 own h1 h2]
      unfold yd_wt
      have := yd_w0 (s := own) (hfl k hk8).1 (hf k hk8)
      split <;> omega
    have f72 : ∀ t, J1 72 t = J 72 t := fun t => x2 72 t (by decide)
    obtain ⟨J2, y1, y2, y3, y4, y5⟩ := yd_outer (d := d + 3) (I := I) (R := R) (i65 k hk8).2 full J1 hfull (fun x hx => by rw [f72]; exact (hB x hx).1) hwt
    have hB2 := yd_Bs (B' := fun t => (J2 72 t).toInt) (Wt := fun own => (J1 71 own).toInt) (i66 k hk8).2 hlim (hfl k hk8).1 (hf k hk8) hB x3 (by show (J2 72 0).toInt = (J 72 0).toInt; rw [y4, f72]) (fun x h1 h2 => by
      have := y5 x h1 h2
      simp only [f72] at this
      exact this)
    have hI67 : ∀ J : Nat → Nat → Int64, ((I, J, R) : xq_S).1 67 k = Int32.ofNat k := fun _ => i67 k hk8
    have hI68 : ∀ J : Nat → Nat → Int64, ((I, J, R) : xq_S).1 68 k = 0 := fun _ => i68 k hk8
    have hI65 : ∀ J : Nat → Nat → Int64, ((I, J, R) : xq_S).1 65 k = Int32.ofNat (may k) := fun _ => (i65 k hk8).1
    have hI13 : ((I, J1, R) : xq_S).1 64 13 = Int32.ofNat full := i13
    obtain ⟨v, J', z1, z2, z3, z4⟩ := yd_leastl hfull i13 i67 i68 i65 i66 hlim hfl hf m (k + 1) J2 (by omega) (fun r hr h hh => by rw [y2 69 _ (by decide), x2 69 _ (by decide)]; exact j69 r hr h hh) (fun r hr => by rw [y2 70 _ (by decide), x2 70 _ (by decide)]; exact j70 r hr) (by rw [y2 64 _ (by decide), x2 64 _ (by decide)]; exact j64) hB2
    refine ⟨v, J', ?_, fun k j h1 h2 => by rw [z2 k j h1 h2, y2 k j h2, x2 k j h1], z3, z4⟩
    rw [qX4_least_h19_eq, if_neg h8, b2, b1, if_pos (by omega), hI67, x1, xb_V1, if_pos (by omega), hI67, b2, b1, if_pos (by omega), hI65, qX4_addLeast_eq, hI13, y1, xb_V1, if_pos (by omega), hI68, qX4_addStep_eq, if_neg (fun z => z rfl), xb_V1, a1]
    exact z1
end YDE
