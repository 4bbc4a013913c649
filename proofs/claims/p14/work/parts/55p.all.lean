/-! RULE'S ROUND: the world in another order behind the class's call -/
noncomputable def zcutPm (Js : List zJ) (ps : List (Nat × Nat)) (pc0 k j q : Nat) (hI : zH) : zCut := fun pc c => match Nat.beq pc pc0 with
  | true => some (match zlook c.1 4 with
    | some (.inl a) => (match a.2 with
      | some t => (match Nat.beq t.1 4 && (zle t.2 0 && zle 0 t.2) with
        | true => (match zall (zjC c) Js with
          | true => (match zslot c k j with
            | some (.inr (.inr (.inl q'))) => (match Nat.beq q' q with
              | true => zall (fun x : Nat × zAV => zfix ps x.2) c.1 && (zall (zfix ps) c.2.1 && (zpmok ps c.2.2.1.1 && (zpmh ps c.2.2.1 hI && zinc (c.1, c.2.1, (hI.1, hI.2.1, 0), c.2.2.2) (zcL zmall (.ofNat 2555) hI 0 0))))
              | false => zinc c (zcL zmall (.ofNat 2555) hI 0 0))
            | _ => false)
          | false => false)
        | false => false)
      | none => false)
    | _ => false)
  | false => none
section ZSPP
variable {p : Program} {l : Launch} {e : Env} {s : State} {m : MethodId} {below : List Frame} {meth : Method} {c0 : Code} {b : Nat} {D : va_G} {tys : List (ClassId × FieldType)} {o : zO} {z : Nat} {nm : String} {L : Nat} {xs : Nat → Int32} {hI : zH}
theorem zSat_pm {ps : List (Nat × Nat)} {ws0 ws : va_W} {nL : Nat} {H0 H : Heap} {c : zK} {ls : Array Slot} {vst : List Value} {locs : List Loc} (S : zSat D vwCl tys o z ws0 nL H0 c ls vst H locs ws) (k1 : zall (fun x : Nat × zAV => zfix ps x.2) c.1 = true) (k2 : zall (zfix ps) c.2.1 = true) (k3 : zpmok ps c.2.2.1.1 = true) (k4 : zpmh ps c.2.2.1 hI = true) : zSat D vwCl tys o z (zpmw (zpm ps) ws) nL H0 (c.1, c.2.1, (hI.1, hI.2.1, 0), c.2.2.2) ls vst H locs (zpmw (zpm ps) ws) ∧ zpmok ps ws.length = true := by
  obtain ⟨⟨lv, s1, s2⟩, s3, s4, s5, s6, s7, s8⟩ := S
  have hp' : zpmok ps ws.length = true := by rw [s4.1]; exact k3
  have hπ : ∀ k, k < ws.length → zpm ps k < ws.length := fun k hk => (zpm_of hp' k hk).1
  refine ⟨⟨⟨lv, s1, zr2_allL hp' k1 s2⟩, zr2_allS hp' k2 s3, zwr_pm k3 k4 s4, ?_, ⟨?_, ?_⟩, s7, zcg_rf⟩, hp'⟩
  · intro i x hx
    rw [zpmw_get hπ] at hx
    split at hx
    · exact s5 _ x hx
    · cases hx
  · intro i i' x x' hx hx' he
    rw [zpmw_get hπ] at hx hx'
    split at hx
    · rename_i hi
      split at hx'
      · rename_i hi'
        have := s6.1 _ _ x x' hx hx' he
        rw [← (zpm_of hp' i hi).2, ← (zpm_of hp' i' hi').2, this]
      · cases hx'
    · cases hx
  · intro i x hx
    rw [zpmw_get hπ] at hx
    split at hx
    · exact s6.2 _ x hx
    · cases hx
set_option maxHeartbeats 4000000 in
theorem zspP (E : zEnv tys) {ds : List zKw} (hov : ∀ g, zOwOk l D vwCl tys (zwith o g) z (zXX o z) zTs zprog2 (zovW ds)) (C : zCx p room_1 s m #[Value.ref b] meth c0 D vwCl tys z (zXX o z) zTs RL cL_law 8 nm) (hX : va_X o.1 L xs s s.heap) (hbl : o.1 < s.heap.size) (hbA : ¬ zA z o.1) (hL : L ≤ 2560) (hst : l.stackTraces = false) (hTh : zTh z s s.heap) {Js : List zJ} (hJ : ∀ q ∈ Js, zJok D tys z q) {Js1 Js2 : List zJ} {hM : zH} (hJ1 : ∀ q ∈ Js1, q ∈ Js) (hJ2 : ∀ q ∈ Js, q ∈ Js1 ∨ q ∈ Js2) {ps : List (Nat × Nat)} {pc0 k j q : Nat} (hPm : ∀ r ∈ Js1, ∀ ws : va_W, zpmok ps ws.length = true → r.2.2 ws → r.2.2 (zpmw (zpm ps) ws)) {jq b1 b2 : zI} (hr1 : zrunw zprog2 (zovW ds) 100000 (zcutPm Js1 ps pc0 k j q hM) 2048 84000 (kLawC ds (zscr b1 b2)) (fun _ _ => false) 39 (zcL9 0 hI jq) = true) (hr2 : zrunw zprog2 (zovW ds) 100000 (zcutJ (fun c => zall (zjC c) Js1 && zall (fun q : zJ => q.2.1 c) Js2) hI) 2048 84000 (kLawC ds (zscr b1 b2)) (fun _ _ => false) pc0 (zcL 0 (.ofNat 2555) hM 0 0) = true) : zSpec p l e s m b below meth c0 D tys o z L xs hI Js jq b1 b2 := by
  intro i K S g ls H locs ws hg h5 hi hK hS _ hm1 hm2 vst S0 hR hn
  have st2 : ∀ (ls : Array Slot) (H : Heap) (locs : List Loc) (ws2 : va_W), zgv ls 4 = Int32.ofNat i → zSat D vwCl tys (zwith o (zgv ls)) z ws2 8 s.heap (zcL 0 (.ofNat 2555) hM 0 0) ls [] H locs ws2 → (∀ r ∈ Js1, r.2.2 ws2) → W p l e room_1 s m #[Value.ref b] below meth c0 H locs (0 + K) (0 + S) (lw_Z below #[Value.ref b] s) (F0 m pc0 ls []) := by
    intro ls H locs ws2 h4 S2 hR2
    refine zrunw_G (R := room_1) (G := fun pc c => zgoL p l e s m b below meth c0 D tys (zwith o (zgv ls)) z ws2 pc (zshf K S c)) (hov (zgv ls)) zXX_ok (zprog2_ok E) (by decide) (by decide) (fun pc sem hp => okLawC (o := zwith o (zgv ls)) (below := below) (e := e) (sc := zscr b1 b2) E C (hov (zgv ls)) hX hbl hbA h4 (show i + 5 ≤ L from h5) hL (zscr_ok hm1 hm2) hst hTh (by omega) (by omega) pc sem hp) ?_ 100000 pc0 _ hr2 (zgv ls) (fun _ _ => rfl) ls [] H locs ws2 S2
    intro pc c hc
    obtain ⟨e0, hl, hck, hinc⟩ := zcutJ_ok hc
    subst e0
    intro f hf ls' vst' H' locs' ws' S1
    have S1 : zSat D vwCl tys (zwith (zwith o (zgv ls)) f) z ws2 8 s.heap c ls' vst' H' locs' ws' := S1
    rw [Bool.and_eq_true] at hck
    refine znxt hi h4 hn hl hinc hf S1 (fun q hq => ?_)
    rcases hJ2 q hq with hq1 | hq2
    · have h9 := zall_mem hck.1 q hq1
      unfold zjC at h9
      split at h9
      · rename_i hb
        exact (hJ q hq).1 _ _ _ hb S1.2.2.2.2.2.2 (hR2 q hq1)
      · exact (hJ q hq).2 _ _ _ _ _ _ _ _ _ S1 h9
    · exact (hJ q hq).2 _ _ _ _ _ _ _ _ _ S1 (zall_mem hck.2 q hq2)
  refine zrunw_G (R := room_1) (G := fun pc c => zgoL p l e s m b below meth c0 D tys (zwith o g) z ws pc (zshf K S c)) (hov g) zXX_ok (zprog2_ok E) (by decide) (by decide) (fun pc sem hp => okLawC (o := zwith o g) (below := below) (e := e) (sc := zscr b1 b2) E C (hov g) hX hbl hbA hg (show i + 5 ≤ L from h5) hL (zscr_ok hm1 hm2) hst hTh (by omega) (by omega) pc sem hp) ?_ 100000 39 _ hr1 g (fun _ _ => rfl) ls vst H locs ws S0
  intro pc c hc
  unfold zcutPm at hc
  split at hc
  · rename_i hb
    have hb := Nat.eq_of_beq_eq_true hb
    subst hb
    have hc := Option.some.inj hc
    split at hc
    · rename_i a ha
      split at hc
      · rename_i t ht
        split at hc
        · rename_i hk
          simp only [Bool.and_eq_true, zle_iff] at hk
          obtain ⟨k1, k2, k3⟩ := hk
          have k1 := Nat.eq_of_beq_eq_true k1
          split at hc
          · rename_i hck
            intro f hf ls' vst' H' locs' ws' S1
            have S1 : zSat D vwCl tys (zwith (zwith o g) f) z ws 8 s.heap c ls' vst' H' locs' ws' := S1
            have e4 : zgv ls' 4 = Int32.ofNat i := by
              obtain ⟨v, hv1, hv2⟩ := zlv S1.1 ha
              obtain ⟨x, rfl, hx, tx⟩ := zint hv2
              rw [ht] at tx
              have tx : x = f t.1 + Int32.ofInt t.2 := (ztg_eq (by omega)).mp tx
              have ef : f 4 = Int32.ofNat i := (hf 4 (by decide)).trans hg
              rw [k1, ef, show t.2 = 0 by omega, show Int32.ofInt 0 = 0 by decide, Int32.add_zero] at tx
              rw [zgv_lo (by omega) hv1, tx]
            have hR1 : ∀ r ∈ Js1, r.2.2 ws' := by
              intro r hr
              have h9 := zall_mem hck r hr
              unfold zjC at h9
              split at h9
              · rename_i hb
                exact (hJ r (hJ1 r hr)).1 _ _ _ hb S1.2.2.2.2.2.2 (hR r (hJ1 r hr))
              · exact (hJ r (hJ1 r hr)).2 _ _ _ _ _ _ _ _ _ S1 h9
            split at hc
            · split at hc
              · simp only [Bool.and_eq_true] at hc
                obtain ⟨m1, m2, m3, m4, m5⟩ := hc
                obtain ⟨S3, hpl⟩ := zSat_pm (hI := hM) S1 m1 m2 m3 m4
                obtain ⟨S2, w1, w2⟩ := zinc_ok (o := zwith o g) (f := f) m5 S3
                have ev := zr2_nil S2.2.1
                subst ev
                have w1 : c.2.2.2.1 ≤ 0 := w1
                have w2 : c.2.2.2.2 ≤ 0 := w2
                exact W.widen (k := 0 + K) (n := 0 + S) (by show c.2.2.2.1 + K ≤ 0 + K; omega) (by show c.2.2.2.2 + S ≤ 0 + S; omega) (st2 ls' H' locs' _ e4 ⟨S2.1, trivial, ⟨S2.2.2.1.1, S2.2.2.1.2⟩, S2.2.2.2.1, S2.2.2.2.2.1, S2.2.2.2.2.2.1, zcg_rf⟩ (fun r hr => hPm r hr ws' hpl (hR1 r hr)))
              · obtain ⟨S2, w1, w2⟩ := zinc_ok (o := zwith o g) (f := f) hc S1
                have ev := zr2_nil S2.2.1
                subst ev
                have w1 : c.2.2.2.1 ≤ 0 := w1
                have w2 : c.2.2.2.2 ≤ 0 := w2
                exact W.widen (k := 0 + K) (n := 0 + S) (by show c.2.2.2.1 + K ≤ 0 + K; omega) (by show c.2.2.2.2 + S ≤ 0 + S; omega) (st2 ls' H' locs' ws' e4 ⟨S2.1, trivial, ⟨S2.2.2.1.1, S2.2.2.1.2⟩, S2.2.2.2.1, S2.2.2.2.2.1, S2.2.2.2.2.2.1, zcg_rf⟩ hR1)
            · cases hc
          · cases hc
        · cases hc
      · cases hc
    · cases hc
  · cases hc
end ZSPP
noncomputable def zqJa : List zJ := [zq2, zq3, zq4, zq5]
noncomputable def zqJb : List zJ := [zq1]
theorem zqPm : ∀ r ∈ zqJa, ∀ ws : va_W, zpmok zPS ws.length = true → r.2.2 ws → r.2.2 (zpmw (zpm zPS) ws) := by
  intro r hr ws hp h
  unfold zqJa at hr
  simp only [List.mem_cons, List.not_mem_nil, or_false] at hr
  rcases hr with rfl | rfl | rfl | rfl
  · exact xz_pm zq2_C (by decide +kernel) hp h
  · exact xz_pm zq3_C (by decide +kernel) hp h
  · exact xz_pm zq4_C (by decide +kernel) hp h
  · exact xz_pm zq5_C (by decide +kernel) hp h
set_option maxRecDepth 100000 in
theorem zqRu1 : zrunw zprog2 (zovW zyds) 100000 (zcutPm zqJa zPS 320 3 9 83 (zxv zyI 1 1 0)) 2048 84000 (kLawC zyds (zscr ztopI ztopI)) (fun _ _ => false) 39 (zcL9 0 zyI (.ofNat 3, .ofNat 3)) = true := by decide +kernel
set_option maxRecDepth 100000 in
theorem zqRu2 : zrunw zprog2 (zovW zyds) 100000 (zcutJ (fun c => zall (zjC c) zqJa && zall (fun q : zJ => q.2.1 c) zqJb) zyI) 2048 84000 (kLawC zyds (zscr ztopI ztopI)) (fun _ _ => false) 320 (zcL 0 (.ofNat 2555) (zxv zyI 1 1 0) 0 0) = true := by decide +kernel
set_option maxRecDepth 100000 in
theorem zqpre : zpref zqJ zyI = true := by decide +kernel
set_option maxRecDepth 100000 in
theorem zqg_4 : zbodyG zyds zqJ zyI (.ofNat 4, .ofNat 11) ztopI ztopI = true := by decide +kernel
set_option maxRecDepth 100000 in
theorem zqg_13 : zbodyG zyds zqJ zyI (.ofNat 13, .ofNat 45) ztopI ztopI = true := by decide +kernel
set_option maxRecDepth 100000 in
theorem zqg_47 : zbodyG zyds zqJ zyI (.ofNat 47, .ofNat 63) ztopI ztopI = true := by decide +kernel
def zqjs : List zI := [(.ofNat 0, .ofNat 0), (.ofNat 1, .ofNat 1), (.ofNat 2, .ofNat 2), (.ofNat 3, .ofNat 3), (.ofNat 4, .ofNat 11), (.ofNat 12, .ofNat 12), (.ofNat 13, .ofNat 45), (.ofNat 46, .ofNat 46), (.ofNat 47, .ofNat 63)]
theorem zqj_ok : zcov64 0 zqjs = true := by decide +kernel
theorem zqb_ok : ∀ j ∈ zqjs, zcov (-2147483648) [ztopI] = true := by decide +kernel
section ZALLQ
variable {p : Program} {l : Launch} {e : Env} {s : State} {m : MethodId} {below : List Frame} {meth : Method} {c0 : Code} {b : Nat} {D : va_G} {tys : List (ClassId × FieldType)} {o : zO} {z : Nat} {nm : String} {L : Nat} {xs : Nat → Int32}
theorem zqSp (E : zEnv tys) (hov : ∀ g, zOwOk l D vwCl tys (zwith o g) z (zXX o z) zTs zprog2 (zovW zyds)) (C : zCx p room_1 s m #[Value.ref b] meth c0 D vwCl tys z (zXX o z) zTs RL cL_law 8 nm) (hX : va_X o.1 L xs s s.heap) (hbl : o.1 < s.heap.size) (hbA : ¬ zA z o.1) (hL : L ≤ 2560) (hst : l.stackTraces = false) (hTh : zTh z s s.heap) : ∀ j ∈ zqjs, ∀ b1 ∈ ([ztopI] : List zI), ∀ b2 ∈ ([ztopI] : List zI), zSpec p l e s m b below meth c0 D tys o z L xs zyI zqJ j b1 b2 := by
  intro j hj b1 hb1 b2 hb2
  have e1 := List.mem_singleton.mp hb1
  have e2 := List.mem_singleton.mp hb2
  subst e1
  subst e2
  simp only [zqjs, List.mem_cons, List.not_mem_nil, or_false] at hj
  rcases hj with rfl | rfl | rfl | rfl | rfl | rfl | rfl | rfl | rfl
  · exact zsx_sign E C hX hbl hbA hL
  · exact zsx_end E C hX hbl hbA hL
  · exact zsx_riders E C hX hbl hbA hL
  · exact zspP E hov C hX hbl hbA hL hst hTh zqJ_ok (fun q hq => List.mem_cons_of_mem _ hq) (fun q hq => (List.mem_cons.mp hq).elim (fun h => Or.inr (h ▸ List.mem_cons_self)) Or.inl) zqPm zqRu1 zqRu2
  · exact zspG E hov C hX hbl hbA hL hst hTh zqJ_ok zqg_4
  · exact zsx_year E C hX hbl hbA hL
  · exact zspG E hov C hX hbl hbA hL hst hTh zqJ_ok zqg_13
  · exact zsx_keep E C hX hbl hbA hL
  · exact zspG E hov C hX hbl hbA hL hst hTh zqJ_ok zqg_47
end ZALLQ
