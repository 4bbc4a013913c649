/-! CALLS BY THEIR KINDS; COPIES; WHAT LIES OUTSIDE -/
/-- copying n elements -/
noncomputable def zcopy (src : zR zAV) (sp dp : Nat) (n : Nat) (dst : zR zAV) : Option (zR zAV) := Nat.rec (motive := fun _ => Option (zR zAV)) (some dst) (fun i ih => match ih with
  | none => none
  | some d => match zaget src (sp + i) with
    | none => none
    | some a => match zrget d (dp + i) with
      | none => none
      | some _ => some (zrset d (dp + i) a)) n
theorem zcopy_ok {src dst : zR zAV} {sp dp n1 : Nat} {P Q1 : zAV → Nat → Prop} (hd : ∀ j, j < n1 → ∃ b, zrget dst j = some b ∧ Q1 b j) : ∀ (n : Nat) (r : zR zAV), zcopy src sp dp n dst = some r → ∀ j, j < n1 → ∃ b, zrget r j = some b ∧ ((dp ≤ j ∧ j < dp + n → zaget src (sp + (j - dp)) = some b) ∧ (¬ (dp ≤ j ∧ j < dp + n) → Q1 b j))
  | 0, r, h, j, hj => by
    cases h
    obtain ⟨b, h1, h2⟩ := hd j hj
    exact ⟨b, h1, fun q => by omega, fun _ => h2⟩
  | n + 1, r, h, j, hj => by
    have h : (match zcopy src sp dp n dst with | none => none | some d => match zaget src (sp + n) with | none => none | some a => match zrget d (dp + n) with | none => none | some _ => some (zrset d (dp + n) a)) = some r := h
    split at h
    · cases h
    · rename_i d hdd
      split at h
      · cases h
      · rename_i a ha
        split at h
        · cases h
        · rename_i x hx
          cases h
          obtain ⟨b, h1, h2, h3⟩ := zcopy_ok (P := P) hd n d hdd j hj
          rw [zrget_set hx]
          by_cases e : j = dp + n
          · subst e
            rw [if_pos rfl]
            exact ⟨a, rfl, fun _ => by rw [show dp + n - dp = n by omega]; exact ha, fun q => by omega⟩
          · rw [if_neg e]
            exact ⟨b, h1, fun q => h2 (by omega), fun q => h3 (by omega)⟩
theorem zcopy_uni {src dst : zR zAV} {sp dp : Nat} (hu : zuni dst = false) : ∀ (n : Nat) (r : zR zAV), zcopy src sp dp n dst = some r → zuni r = false
  | 0, r, h => by cases h; exact hu
  | n + 1, r, h => by
    have h : (match zcopy src sp dp n dst with | none => none | some d => match zaget src (sp + n) with | none => none | some a => match zrget d (dp + n) with | none => none | some _ => some (zrset d (dp + n) a)) = some r := h
    split at h
    · cases h
    · rename_i d hdd
      split at h
      · cases h
      · split at h
        · cases h
        · cases h
          exact zuni_set (zcopy_uni hu n d hdd)
noncomputable def zcpy (src : zR zAV) (sp dp n : Nat) (dst : zR zAV) : Option (zR zAV) := match zuni dst with
  | false => zcopy src sp dp n dst
  | true => (match zaget dst 0 with
    | some e => (match zload src sp (sp + n) with
      | some a => if zvle a e then some dst else none
      | none => none)
    | none => none)
theorem zcpy_ok {o : zO} {ad : Nat → Option Nat} {src dst r : zR zAV} {sp dp n n0 n1 : Nat} {f0 f1 : Nat → Int32} (h : zcpy src sp dp n dst = some r) (hs : sp + n ≤ n0) (h0 : ∀ i, i < n0 → ∃ b, zaget src i = some b ∧ zgH o ad b (.int (f0 i))) (h1 : ∀ i, i < n1 → ∃ b, zaget dst i = some b ∧ zgH o ad b (.int (f1 i))) : ∀ j, j < n1 → ∃ b, zaget r j = some b ∧ zgH o ad b (.int (if dp ≤ j ∧ j < dp + n then f0 (sp + (j - dp)) else f1 j)) := by
  unfold zcpy at h
  split at h
  · rename_i hu
    have hu' := zcopy_uni hu _ _ h
    intro j hj
    obtain ⟨b, q1, q2, q3⟩ := zcopy_ok (P := fun _ _ => True) (Q1 := fun b j => zgH o ad b (.int (f1 j))) (n1 := n1) (fun j hj => by obtain ⟨b, p1, p2⟩ := h1 j hj; rw [zaget_n hu] at p1; exact ⟨b, p1, p2⟩) n r h j hj
    rw [zaget_n hu']
    refine ⟨b, q1, ?_⟩
    by_cases hin : dp ≤ j ∧ j < dp + n
    · rw [if_pos hin]
      have hsrc := q2 hin
      obtain ⟨b2, p1, p2⟩ := h0 (sp + (j - dp)) (by omega)
      rw [hsrc] at p1
      cases p1
      exact p2
    · rw [if_neg hin]
      exact q3 hin
  · rename_i hu
    split at h
    · rename_i e he
      split at h
      · rename_i a ha
        split at h
        · rename_i hle
          cases h
          intro j hj
          obtain ⟨b, p1, p2⟩ := h1 j hj
          refine ⟨b, p1, ?_⟩
          by_cases hin : dp ≤ j ∧ j < dp + n
          · rw [if_pos hin]
            obtain ⟨b2, s1, s2⟩ := h0 (sp + (j - dp)) (by omega)
            rw [zaget_u hu j 0, he] at p1
            cases p1
            exact zvle_ok hle (zload_ok ha (by omega) (by omega) s1 s2)
          · rw [if_neg hin]
            exact p2
        · cases h
      · cases h
    · cases h
noncomputable def zo_copy (nx : Nat) : zSem := fun _ _ go c => match c with
  | (al, .inl n :: .inl dp :: .inr (.inr (.inl q1)) :: .inl sp :: .inr (.inr (.inl q0)) :: st, h, k) => match zrget h.2.1 q0 with
    | some (.inl (t0, n0, r0)) => (match zrget h.2.1 q1 with
      | some (.inl (t1, n1, r1)) => if Nat.beq t0 0 && (Nat.beq t1 0 && (Nat.ble (zcats st) 8 && (zle n.1.2 n.1.1 && (zle dp.1.2 dp.1.1 && (zle sp.1.2 sp.1.1 && (zle 0 n.1.1 && (zle 0 dp.1.1 && (zle 0 sp.1.1 && (Nat.ble (sp.1.1.toNat + n.1.1.toNat) n0 && Nat.ble (dp.1.1.toNat + n.1.1.toNat) n1))))))))) then (match zcpy r0 sp.1.1.toNat dp.1.1.toNat n.1.1.toNat r1 with
        | some r => zfr (zrset h.2.1 q1 (.inl (0, n1, r))) q1 (go nx (al, st, (h.1, zrset h.2.1 q1 (.inl (0, n1, r)), zdirt h.2.2 q1 0), k))
        | none => false) else false
      | _ => false)
    | _ => false
  | _ => false
/-- a constant text's bytes and coder; its bytes' length and elements -/
def zo_getSv (nx : Nat) : zSem := fun _ _ go c => match c with
  | (al, .inr (.inr (.inr (.inr k))) :: st, h) => if Nat.beq k 0 || Nat.beq k 2 then go nx (al, .inr (.inr (.inr (.inr (k + 1)))) :: st, h) else false
  | _ => false
def zo_getSc (nx : Nat) : zSem := fun _ _ go c => match c with
  | (al, .inr (.inr (.inr (.inr k))) :: st, h) => if Nat.beq k 0 || Nat.beq k 2 then go nx (al, .inl ((.ofNat 0, .ofNat 0), none) :: st, h) else false
  | _ => false
noncomputable def zo_lenS (nx : Nat) (len : List Nat) : zSem := fun _ _ go c => match c with
  | (al, .inr (.inr (.inr (.inr k))) :: st, h) => if Nat.beq k 1 || Nat.beq k 3 then (match zget len (k / 2) with
    | some n => go nx (al, .inl ((Int.ofNat n, Int.ofNat n), none) :: st, h)
    | none => false) else false
  | _ => false
noncomputable def zo_baldS (nx : Nat) (byt : List (List Int)) : zSem := fun _ _ go c => match c with
  | (al, .inl i :: .inr (.inr (.inr (.inr k))) :: st, h) => if (Nat.beq k 1 || Nat.beq k 3) && (zle i.1.2 i.1.1 && zle 0 i.1.1) then (match zget byt (k / 2) with
    | some bs => (match zget bs i.1.1.toNat with
      | some v => go nx (al, .inl ((v, v), none) :: st, h)
      | none => false)
    | none => false) else false
  | _ => false
/-- the receiver is a constant text -/
def zrecvS (as : List zAV) (_ : zH) : Bool := match as with
  | .inr (.inr (.inr (.inr k))) :: _ => Nat.beq k 0 || Nat.beq k 2
  | _ => false
def zrecv0 (_ : List zAV) (_ : zH) : Bool := true
/-- what is known of the constant texts: two, their addresses by o -/
def zTx (o : zO) (z : Nat) (len : List Nat) (byt : List (List Int)) (U : State) (H : Heap) : Prop :=
  ∀ i, i < 2 → va_O "java/lang/String" (o.2.1 (2 * i)) (zA z) U H ∧ va_OF "java/lang/String" "coder" "B" (.int 0) (o.2.1 (2 * i)) (zA z) U H ∧ va_OF "java/lang/String" "value" "[B" (.ref (o.2.1 (2 * i + 1))) (o.2.1 (2 * i)) (zA z) U H ∧ ∃ n bs, len[i]? = some n ∧ byt[i]? = some bs ∧ n = bs.length ∧ n < 2147483648 ∧ (∀ b ∈ bs, zin 2147483648 b b = true) ∧ va_T .byte (o.2.1 (2 * i + 1)) n (fun j => .int (Int32.ofInt (bs.getD j 0))) (zA z) U H
section ZCALLS
variable {p : Program} {l : Launch} {e : Env} {R : Room} {s : State} {m : MethodId} {args : Array Value} {below : List Frame} {meth : Method} {c0 : Code} {Q : State → Prop} {D : va_G} {cl : List vw_C} {tys : List (ClassId × FieldType)} {o : zO} {z : Nat} {X : State → Heap → Prop} {Ts : List Cond} {prog : List zM} {ws0 : va_W} {nL : Nat} {own : String} {cc : ByteArray} {ret : Option FieldType} {nm : String}
theorem zk_lsw (C : zCx p R s m args meth c0 D cl tys z X Ts own cc nL nm) {pc len d : Nat} {dflt : Int} {ps : Array (Int × Int)} {ts : List (Int × Nat)} (hd : decode cc pc = .ok (.lookupswitch dflt ps, len)) (hdf : (pc : Int) + dflt = (d : Int)) (hp : (ps.toList.zip (ps.toList.drop 1)).all (fun (a, next) => a.1 < next.1) = true) (hsw : ∀ v : Int, (pc : Int) + Op.lookupswitch.offset ps.toList dflt v = (zlsw v ts d : Int)) : zOp p l e R s m args below meth c0 Q D cl tys o z X Ts prog ws0 nL cc ret (pc) (zo_lsw ts d) := by
  intro call rt go c _ _ hgo hs fv hfv ls vst H locs ws S
  unfold zo_lsw at hs
  split at hs
  · rename_i al pa st h
    obtain ⟨v, t, rfl, h1, h2⟩ := zr2_cons S.2.1
    obtain ⟨x, rfl, ⟨hx1, hx2⟩, -⟩ := zint h1
    split at hs
    · rename_i he
      rw [zle_iff] at he
      have ex : x.toInt = _ := Int.le_antisymm (Int.le_trans hx2 he) hx1
      exact lv_lookup C.1 C.2.1 hd hp rfl (by rw [ex]; exact hsw _) (hgo _ _ hs fv hfv ls _ H locs ws (zSat_st S h2))
    · split at hs
      · rename_i he hall
        have hno : ∀ ts' : List (Int × Nat), ts'.all (fun q => zle (pa.1.2 + 1) q.1 || zle (q.1 + 1) pa.1.1) = true → zlsw x.toInt ts' d = d := by
          intro ts'
          induction ts' with
          | nil => intro _; rfl
          | cons a l ih =>
            intro hq
            rw [List.all_cons, Bool.and_eq_true] at hq
            have h0 := hq.1
            simp only [Bool.or_eq_true, zle_iff] at h0
            have hb : (zle x.toInt a.1 && zle a.1 x.toInt) = false := by
              rw [Bool.and_eq_false_iff, zle_f, zle_f]
              omega
            show Bool.casesOn (motive := fun _ => Nat) (zle x.toInt a.1 && zle a.1 x.toInt) (zlsw x.toInt l d) a.2 = d
            rw [hb]
            exact ih hq.2
        exact lv_lookup C.1 C.2.1 hd hp rfl (by rw [hsw, hno ts hall]) (hgo _ _ hs fv hfv ls _ H locs ws (zSat_st S h2))
      · cases hs
  · cases hs
theorem zclamp {i : zI} {x : Int32} (hx : zmi i x) (h1 : zle i.2 i.1 = true) (h2 : zle 0 i.1 = true) : ¬ x < 0 ∧ x.toNatClampNeg = i.1.toNat := by
  rw [zle_iff] at h1 h2
  obtain ⟨g1, g2⟩ := hx
  refine ⟨by rw [Int32.lt_iff_toInt_lt, Int32.toInt_zero]; omega, ?_⟩
  show x.toInt.toNat = _
  rw [show x.toInt = i.1 by omega]
theorem zk_copy (C : zCx p R s m args meth c0 D cl tys z X Ts own cc nL nm) {pc idx : Nat} (hd : decode cc pc = .ok (.invokestatic idx, 3)) (hl : Cond.methodLink own idx arraycopyName ∈ Ts) (hn : Cond.native arraycopyName ∈ Ts) (hst : Cond.static arraycopyName ∈ Ts) (hi : Cond.initialized "java/lang/System" ∈ Ts) (hfw : nativeFrameWords "java/lang/System" "arraycopy" 5 + 11 ≤ 190) : zOp p l e R s m args below meth c0 Q D cl tys o z X Ts prog ws0 nL cc ret (pc) (zo_copy (pc + 3)) := by
  intro call rt go c _ _ hgo hs fv hfv ls vst H locs ws S
  unfold zo_copy at hs
  split at hs
  · rename_i al pn pd pq1 ps pq0 st h k
    split at hs
    · rename_i pt0 pn0 pr0 hc0
      split at hs
      · rename_i pt1 pn1 pr1 hc1
        split at hs
        · rename_i hcnt
          simp only [Bool.and_eq_true] at hcnt
          obtain ⟨e0, e1, k0, k1, k2, k3, k4, k5, k6, k7, k8⟩ := hcnt
          have e0 := Nat.eq_of_beq_eq_true e0
          have e1 := Nat.eq_of_beq_eq_true e1
          subst e0
          subst e1
          have k0 := Nat.le_of_ble_eq_true k0
          have k7 := Nat.le_of_ble_eq_true k7
          have k8 := Nat.le_of_ble_eq_true k8
          split at hs
          · rename_i r hr
            replace hs := zfr_ok hs
            obtain ⟨v1, t1, rfl, g1, hh1⟩ := zr2_cons S.2.1
            obtain ⟨v2, t2, rfl, g2, hh2⟩ := zr2_cons hh1
            obtain ⟨v3, t3, rfl, ⟨a1, ha1, rfl⟩, hh3⟩ := zr2_cons hh2
            obtain ⟨v4, t4, rfl, g4, hh4⟩ := zr2_cons hh3
            obtain ⟨v5, t5, rfl, ⟨a0, ha0, rfl⟩, hh5⟩ := zr2_cons hh4
            obtain ⟨xn, rfl, hn1, -⟩ := zint g1
            obtain ⟨xd, rfl, hd1, -⟩ := zint g2
            obtain ⟨xs, rfl, hs1, -⟩ := zint g4
            obtain ⟨n1, n2⟩ := zclamp hn1 k1 k4
            obtain ⟨d1, d2⟩ := zclamp hd1 k2 k5
            obtain ⟨s1, s2⟩ := zclamp hs1 k3 k6
            obtain ⟨w0, hw0, cA0, hA0, f0, rfl, hf0⟩ := zwr_at S.2.2.1 ha0 hc0
            obtain ⟨w1, hw1, cA1, hA1, f1, rfl, hf1⟩ := zwr_at S.2.2.1 ha1 hc1
            obtain ⟨t0, ht0⟩ := List.getElem?_of_mem hA0
            obtain ⟨t1, ht1⟩ := List.getElem?_of_mem hA1
            have hlo := C.2.2.2.2.2.2.2.2.2.2
            refine va_copyi C.1 C.2.1 (C.2.2.1.trans S.1.choose_spec.1.1.symm) C.2.2.2.1 (C.2.2.2.2.1 _ hl) (C.2.2.2.2.1 _ hn) (C.2.2.2.2.1 _ hst) (C.2.2.2.2.1 _ hi) C.2.2.2.2.2.1 S.2.2.2.1 S.2.2.2.2.1 S.2.2.2.2.2.1 _ _ t0 t1 hw0 hw1 ht0 ht1 rfl s1 d1 n1 (by rw [s2, n2]; exact k7) (by rw [d2, n2]; exact k8) (fun _ _ => rfl) C.2.2.2.2.2.2.2.2.2.1 (by rw [zcats_ok hh5]; omega) hd (fun H1 locs1 hP hD hS => ?_)
            rw [s2, d2, n2] at hP hD
            refine hgo _ _ hs fv hfv ls _ H1 locs1 _ (zSat_h S hh5 (by rw [zad_set hw1]; exact fun _ _ q => q) (zwr_set S.2.2.1 hw1 hc1 ⟨cA1, hA1, _, rfl, ?_⟩) hP hD hS (zcg_arr S.2.2.2.2.2.2 hw1))
            intro j hj
            rw [va_cpy]
            exact zcpy_ok hr k7 hf0 hf1 j hj
          · cases hs
        · cases hs
      · cases hs
    · cases hs
  · cases hs
end ZCALLS
